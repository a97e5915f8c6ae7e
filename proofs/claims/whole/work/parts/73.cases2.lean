/-! The law's cases -/
section LK
variable {X : gX} {a : Nat → Nat} {c : Nat → va_E} {t : QT} {k : QC} {o : QO} {l : QL} {p : QP} {d : QD} {b : QB} {r : List Nat} {n i C S : Nat} {u : Nat → Int64} {th : Int32}
theorem k_shapes (hX : X.l.stackTraces = false) (h : cls X a c t k o l p d b r) (hm : mdl X a c th t k o l p d b r) (ok : okQ n t k o l p d b r) (hn : n < 600) (hO : c 94 = aJ X 1 u) (hi : i + 5 ≤ X.sl) (hsl : X.sl < 2 ^ 31) (hC : 4 ≤ C) (hS : 24 ≤ S) (kk : ∀ w, lwI X a w (n + 1) → GW X a m_L_law 11 388 (C - 4) (S - 24) 1127 [(0, .ref X.sb), (1, .ref (a 0)), (2, .ref (a 79)), (3, .ref (a 94)), (4, .int (nI i))] [] w PL) : GW X a m_L_law 11 388 C S 761 [(0, .ref X.sb), (1, .ref (a 0)), (2, .ref (a 79)), (3, .ref (a 94)), (4, .int (nI i))] [] c PL := by
  refine w_aload_n d_L_law_761 rfl ?_
  refine w_vI [] c_L_130 d_L_law_762 rfl h.A (by decide) (a_shapes h) (fun v w1 hw1 => ?_) rfl rfl (gq rfl) (gq rfl) (gq rfl) (gq rfl) (by omega) (by omega)
  obtain ⟨hv1, rfl⟩ := hw1
  have hv1 := hv1.symm
  have gc := h
  have hs : sameA c c := sameA_rf
  have hm := hm.keepL (sameL_a hs)
  obtain ⟨sc, hMM⟩ := hm.M
  refine w_aload_n d_L_law_765 rfl ?_
  refine w_vI [] c_L_133 d_L_law_766 rfl hMM (by decide) (m_shapes hm) (fun v2 w2 hw2 => ?_) rfl rfl (gq rfl) (gq rfl) (gq rfl) (gq rfl) (by omega) (by omega)
  obtain ⟨hv2, gm, hs2⟩ := hw2
  refine w_icmp_eq 1127 d_L_law_769 (by decide) (fun _ => ?_) (fun hn => absurd ((hv1.trans hv2.symm)) hn)
  obtain ⟨gok, gO⟩ : okQ (n + 1) _ _ _ _ _ _ _ _ ∧ w2 94 = aJ X 1 u := ⟨ok_mono ok hn, (hs2 94 (Or.inr (by decide))).trans ((hs 94 (by decide)).trans hO)⟩
  have gc := gc.keep (w := w2) (fun q hq => hs2 q (Or.inl (by omega)))
  exact w_less (Nat.le_refl _) (Nat.le_refl _) (by omega) (by omega) (kk _ ⟨_, _, _, _, _, _, _, _, _, _, gc, gm, gok, gO⟩)
theorem k_shape (hX : X.l.stackTraces = false) (h : cls X a c t k o l p d b r) (hm : mdl X a c th t k o l p d b r) (ok : okQ n t k o l p d b r) (hn : n < 600) (hO : c 94 = aJ X 1 u) (hi : i + 5 ≤ X.sl) (hsl : X.sl < 2 ^ 31) (hC : 4 ≤ C) (hS : 24 ≤ S) (kk : ∀ w, lwI X a w (n + 1) → GW X a m_L_law 11 388 (C - 4) (S - 24) 1127 [(0, .ref X.sb), (1, .ref (a 0)), (2, .ref (a 79)), (3, .ref (a 94)), (4, .int (nI i))] [] w PL) : GW X a m_L_law 11 388 C S 774 [(0, .ref X.sb), (1, .ref (a 0)), (2, .ref (a 79)), (3, .ref (a 94)), (4, .int (nI i))] [] c PL := by
  refine w_aload_n d_L_law_774 rfl ?_
  refine w_aload_n d_L_law_775 rfl ?_
  refine w_iload d_L_law_776 rfl ?_
  refine w_iconst 1 d_L_law_778 (by decide) ?_
  refine w_iadd d_L_law_779 ?_
  refine w_sald d_L_law_780 (nI_add i 1) (by omega) hsl ?_
  refine w_aload_n d_L_law_781 rfl ?_
  refine w_iload d_L_law_782 rfl ?_
  refine w_iconst 2 d_L_law_784 (by decide) ?_
  refine w_iadd d_L_law_785 ?_
  refine w_sald d_L_law_786 (nI_add i 2) (by omega) hsl ?_
  refine w_aload_n d_L_law_787 rfl ?_
  refine w_sI [_, _, _, _] c_L_134 d_L_law_788 (l_shape hX h ok hO) (fun v w1 hw1 => ?_) rfl rfl (gq rfl) (gq rfl) (gq rfl) (gq rfl) (by omega) (by omega)
  obtain ⟨hD, hs⟩ := hw1
  have hm := hm.keepL hs
  obtain ⟨sc, hMM⟩ := hm.M
  refine w_istore d_L_law_791 (by decide) ?_
  refine w_aload_n d_L_law_793 rfl ?_
  refine w_aload_n d_L_law_794 rfl ?_
  refine w_iload d_L_law_795 rfl ?_
  refine w_iconst 1 d_L_law_797 (by decide) ?_
  refine w_iadd d_L_law_798 ?_
  refine w_sald d_L_law_799 (nI_add i 1) (by omega) hsl ?_
  refine w_aload_n d_L_law_800 rfl ?_
  refine w_iload d_L_law_801 rfl ?_
  refine w_iconst 2 d_L_law_803 (by decide) ?_
  refine w_iadd d_L_law_804 ?_
  refine w_sald d_L_law_805 (nI_add i 2) (by omega) hsl ?_
  refine w_vI [_, _] c_L_136 d_L_law_806 rfl hMM (by decide) (m_shape hm ok) (fun v2 w2 hw2 => ?_) rfl rfl (gq rfl) (gq rfl) (gq rfl) (gq rfl) (by omega) (by omega)
  obtain ⟨hE, hs2⟩ := hw2
  obtain ⟨t', k', o', l', p', d', b', r', u', gc, gm, gok, gO, gQ⟩ : agr X a w2 n v (fun q => q = Int32.toInt64 v2) := by
    have ht := ok.1
    have hr := ok.2.2.2.2.2.2.2.1.1
    have hd := ok.2.2.2.2.2.1.1
    rcases hD with ⟨rfl, j, z, j1, z1, ⟨u', e1, e2⟩, gc⟩ | ⟨rfl, h1, e1, gc⟩
    · rcases hE with ⟨j', k1, k2, gm⟩ | ⟨g1, gm⟩
      · obtain rfl : j = j' := nI_e j1.2 k1.2 (by omega) (by omega)
        obtain rfl := sel3 z1 k2
        exact ag hs2 gc gm (ok_mono ok hn) e1 (fun _ => e2)
      · exact absurd ⟨⟨j, j1⟩, sel3o z1⟩ g1
    · rcases hE with ⟨j', k1, k2, gm⟩ | ⟨g1, gm⟩
      · exact absurd ⟨⟨j', k1⟩, sel3o k2⟩ h1
      · exact ag hs2 gc gm (ok_mono ok hn) e1 (fun z => absurd z (by decide))
  obtain ⟨sc', hM2⟩ := gm.M
  refine w_istore d_L_law_809 (by decide) ?_
  refine w_aload_n d_L_law_811 rfl ?_
  refine w_vI [] c_L_89 d_L_law_812 rfl hM2 (by decide) (m_thrown hM2) (fun x w hw => ?_) rfl rfl (gq rfl) (gq rfl) (gq rfl) (gq rfl) (by omega) (by omega)
  obtain ⟨rfl, rfl⟩ := hw
  refine w_iload d_L_law_815 rfl ?_
  refine w_icmp_eq 822 d_L_law_817 (by decide) (fun _ => ?_) (fun hn => absurd (rfl) hn)
  refine w_iload d_L_law_822 rfl ?_
  refine w_if_ne 839 d_L_law_824 (by decide) (fun hv => ?_) (fun hv => ?_)
  · -- taken
    refine w_goto 1127 d_L_law_839 (by decide) ?_
    exact w_sel [0, 1, 2, 3, 4] rfl (w_less (Nat.le_refl _) (Nat.le_refl _) (by omega) (by omega) (kk _ ⟨_, _, _, _, _, _, _, _, _, _, gc, gm, gok, gO⟩))
  · -- not taken
    refine w_aload_n d_L_law_827 rfl ?_
    refine w_iconst 0 d_L_law_828 (by decide) ?_
    refine w_lald d_L_law_829 gO (show (0 : Int32) = nI 0 from rfl) (by decide : 0 < 1) (by decide) (by decide) ?_
    refine w_iload d_L_law_830 rfl ?_
    refine w_i2l d_L_law_832 ?_
    refine w_lcmp d_L_law_833 ?_
    refine w_if_eq 839 d_L_law_834 (by decide) (fun _ => ?_) (fun hn => absurd (((lcmp_eq _ _).mpr (gQ hv))) hn)
    refine w_goto 1127 d_L_law_839 (by decide) ?_
    exact w_sel [0, 1, 2, 3, 4] rfl (w_less (Nat.le_refl _) (Nat.le_refl _) (by omega) (by omega) (kk _ ⟨_, _, _, _, _, _, _, _, _, _, gc, gm, gok, gO⟩))
theorem k_changes (hX : X.l.stackTraces = false) (h : cls X a c t k o l p d b r) (hm : mdl X a c th t k o l p d b r) (ok : okQ n t k o l p d b r) (hn : n < 600) (hO : c 94 = aJ X 1 u) (hi : i + 5 ≤ X.sl) (hsl : X.sl < 2 ^ 31) (hC : 4 ≤ C) (hS : 24 ≤ S) (kk : ∀ w, lwI X a w (n + 1) → GW X a m_L_law 11 388 (C - 4) (S - 24) 1127 [(0, .ref X.sb), (1, .ref (a 0)), (2, .ref (a 79)), (3, .ref (a 94)), (4, .int (nI i))] [] w PL) : GW X a m_L_law 11 388 C S 842 [(0, .ref X.sb), (1, .ref (a 0)), (2, .ref (a 79)), (3, .ref (a 94)), (4, .int (nI i))] [] c PL := by
  refine w_aload_n d_L_law_842 rfl ?_
  refine w_vI [] c_L_137 d_L_law_843 rfl h.A (by decide) (a_changes h) (fun v w1 hw1 => ?_) rfl rfl (gq rfl) (gq rfl) (gq rfl) (gq rfl) (by omega) (by omega)
  obtain ⟨hv1, rfl⟩ := hw1
  have hv1 := hv1.symm
  have gc := h
  have hs : sameA c c := sameA_rf
  have hm := hm.keepL (sameL_a hs)
  obtain ⟨sc, hMM⟩ := hm.M
  refine w_aload_n d_L_law_846 rfl ?_
  refine w_vI [] c_L_140 d_L_law_847 rfl hMM (by decide) (m_changes hm) (fun v2 w2 hw2 => ?_) rfl rfl (gq rfl) (gq rfl) (gq rfl) (gq rfl) (by omega) (by omega)
  obtain ⟨hv2, gm, hs2⟩ := hw2
  refine w_icmp_eq 1127 d_L_law_850 (by decide) (fun _ => ?_) (fun hn => absurd ((hv1.trans hv2.symm)) hn)
  obtain ⟨gok, gO⟩ : okQ (n + 1) _ _ _ _ _ _ _ _ ∧ w2 94 = aJ X 1 u := ⟨ok_mono ok hn, (hs2 94 (Or.inr (by decide))).trans ((hs 94 (by decide)).trans hO)⟩
  have gc := gc.keep (w := w2) (fun q hq => hs2 q (Or.inl (by omega)))
  exact w_less (Nat.le_refl _) (Nat.le_refl _) (by omega) (by omega) (kk _ ⟨_, _, _, _, _, _, _, _, _, _, gc, gm, gok, gO⟩)
theorem k_period (hX : X.l.stackTraces = false) (h : cls X a c t k o l p d b r) (hm : mdl X a c th t k o l p d b r) (ok : okQ n t k o l p d b r) (hn : n < 600) (hO : c 94 = aJ X 1 u) (hi : i + 5 ≤ X.sl) (hsl : X.sl < 2 ^ 31) (hC : 4 ≤ C) (hS : 24 ≤ S) (kk : ∀ w, lwI X a w (n + 1) → GW X a m_L_law 11 388 (C - 4) (S - 24) 1127 [(0, .ref X.sb), (1, .ref (a 0)), (2, .ref (a 79)), (3, .ref (a 94)), (4, .int (nI i))] [] w PL) : GW X a m_L_law 11 388 C S 855 [(0, .ref X.sb), (1, .ref (a 0)), (2, .ref (a 79)), (3, .ref (a 94)), (4, .int (nI i))] [] c PL := by
  refine w_aload_n d_L_law_855 rfl ?_
  refine w_vI [] c_L_141 d_L_law_856 rfl h.A (by decide) (a_period h ok) (fun v w1 hw1 => ?_) rfl rfl (gq rfl) (gq rfl) (gq rfl) (gq rfl) (by omega) (by omega)
  obtain ⟨hv1, gc, hs⟩ := hw1
  have hm := hm.keepL (sameL_a hs)
  obtain ⟨sc, hMM⟩ := hm.M
  refine w_aload_n d_L_law_859 rfl ?_
  refine w_vI [] c_L_144 d_L_law_860 rfl hMM (by decide) (m_period hm ok) (fun v2 w2 hw2 => ?_) rfl rfl (gq rfl) (gq rfl) (gq rfl) (gq rfl) (by omega) (by omega)
  obtain ⟨hv2, gm, hs2⟩ := hw2
  refine w_icmp_eq 1127 d_L_law_863 (by decide) (fun _ => ?_) (fun hn => absurd ((hv1.trans hv2.symm)) hn)
  obtain ⟨gok, gO⟩ : okQ (n + 1) _ _ _ _ _ _ _ _ ∧ w2 94 = aJ X 1 u := ⟨ok_period ok hn, (hs2 94 (Or.inr (by decide))).trans ((hs 94 (by decide)).trans hO)⟩
  have gc := gc.keep (w := w2) (fun q hq => hs2 q (Or.inl (by omega)))
  exact w_less (Nat.le_refl _) (Nat.le_refl _) (by omega) (by omega) (kk _ ⟨_, _, _, _, _, _, _, _, _, _, gc, gm, gok, gO⟩)
theorem k_budget (hX : X.l.stackTraces = false) (h : cls X a c t k o l p d b r) (hm : mdl X a c th t k o l p d b r) (ok : okQ n t k o l p d b r) (hn : n < 600) (hO : c 94 = aJ X 1 u) (hi : i + 5 ≤ X.sl) (hsl : X.sl < 2 ^ 31) (hC : 4 ≤ C) (hS : 24 ≤ S) (kk : ∀ w, lwI X a w (n + 1) → GW X a m_L_law 11 388 (C - 4) (S - 24) 1127 [(0, .ref X.sb), (1, .ref (a 0)), (2, .ref (a 79)), (3, .ref (a 94)), (4, .int (nI i))] [] w PL) : GW X a m_L_law 11 388 C S 868 [(0, .ref X.sb), (1, .ref (a 0)), (2, .ref (a 79)), (3, .ref (a 94)), (4, .int (nI i))] [] c PL := by
  refine w_aload_n d_L_law_868 rfl ?_
  refine w_aload_n d_L_law_869 rfl ?_
  refine w_iload d_L_law_870 rfl ?_
  refine w_iconst 1 d_L_law_872 (by decide) ?_
  refine w_iadd d_L_law_873 ?_
  refine w_sald d_L_law_874 (nI_add i 1) (by omega) hsl ?_
  refine w_sI [_, _] c_L_145 d_L_law_875 (l_budget hX h) (fun v w1 hw1 => ?_) rfl rfl (gq rfl) (gq rfl) (gq rfl) (gq rfl) (by omega) (by omega)
  obtain ⟨hD, hs⟩ := hw1
  have e1 := (hs 94 (by decide)).trans hO
  have hm := hm.keepL (sameL_a hs)
  obtain ⟨sc, hMM⟩ := hm.M
  refine w_istore d_L_law_878 (by decide) ?_
  refine w_aload_n d_L_law_880 rfl ?_
  refine w_aload_n d_L_law_881 rfl ?_
  refine w_iload d_L_law_882 rfl ?_
  refine w_iconst 1 d_L_law_884 (by decide) ?_
  refine w_iadd d_L_law_885 ?_
  refine w_sald d_L_law_886 (nI_add i 1) (by omega) hsl ?_
  refine w_vV [_] c_L_147 d_L_law_887 rfl hMM (by decide) (m_budget hm) (fun w2 hw2 => ?_) rfl rfl (gq rfl) (gq rfl) (gq rfl) (gq rfl) (by omega) (by omega)
  obtain ⟨hE, hs2⟩ := hw2
  obtain ⟨t', k', o', l', p', d', b', r', u', gc, gm, gok, gO, gQ⟩ : agr X a w2 n v (fun _ => True) := by
    have ht := ok.1
    have hr := ok.2.2.2.2.2.2.2.1.1
    have hd := ok.2.2.2.2.2.1.1
    rcases hD with ⟨rfl, m, m1, m2, gc⟩ | ⟨rfl, h1, gc⟩
    · rcases hE with ⟨m', k1, k2, gm⟩ | ⟨g1, gm⟩
      · obtain rfl : m = m' := nI_e m2 k2 (by omega) (by omega)
        exact ag hs2 gc gm (ok_budget ok hn m1) e1 (fun _ => trivial)
      · exact absurd ⟨m, m1, m2⟩ g1
    · rcases hE with ⟨m', k1, k2, gm⟩ | ⟨g1, gm⟩
      · exact absurd ⟨m', k1, k2⟩ h1
      · exact ag hs2 gc gm (ok_mono ok hn) e1 (fun z => absurd z (by decide))
  obtain ⟨sc', hM2⟩ := gm.M
  refine w_aload_n d_L_law_890 rfl ?_
  refine w_vI [] c_L_89 d_L_law_891 rfl hM2 (by decide) (m_thrown hM2) (fun x w hw => ?_) rfl rfl (gq rfl) (gq rfl) (gq rfl) (gq rfl) (by omega) (by omega)
  obtain ⟨rfl, rfl⟩ := hw
  refine w_iload d_L_law_894 rfl ?_
  refine w_icmp_eq 901 d_L_law_896 (by decide) (fun _ => ?_) (fun hn => absurd (rfl) hn)
  refine w_goto 1127 d_L_law_901 (by decide) ?_
  exact w_sel [0, 1, 2, 3, 4] rfl (w_less (Nat.le_refl _) (Nat.le_refl _) (by omega) (by omega) (kk _ ⟨_, _, _, _, _, _, _, _, _, _, gc, gm, gok, gO⟩))
theorem k_choose (hX : X.l.stackTraces = false) (h : cls X a c t k o l p d b r) (hm : mdl X a c th t k o l p d b r) (ok : okQ n t k o l p d b r) (hn : n < 600) (hO : c 94 = aJ X 1 u) (hi : i + 5 ≤ X.sl) (hsl : X.sl < 2 ^ 31) (hC : 4 ≤ C) (hS : 24 ≤ S) (kk : ∀ w, lwI X a w (n + 1) → GW X a m_L_law 11 388 (C - 4) (S - 24) 1127 [(0, .ref X.sb), (1, .ref (a 0)), (2, .ref (a 79)), (3, .ref (a 94)), (4, .int (nI i))] [] w PL) : GW X a m_L_law 11 388 C S 904 [(0, .ref X.sb), (1, .ref (a 0)), (2, .ref (a 79)), (3, .ref (a 94)), (4, .int (nI i))] [] c PL := by
  refine w_aload_n d_L_law_904 rfl ?_
  refine w_vI [] c_L_148 d_L_law_905 rfl h.A (by decide) (a_choose h ok) (fun v w1 hw1 => ?_) rfl rfl (gq rfl) (gq rfl) (gq rfl) (gq rfl) (by omega) (by omega)
  obtain ⟨hv1, gc, hs⟩ := hw1
  have hm := hm.keepL (sameL_a hs)
  obtain ⟨sc, hMM⟩ := hm.M
  refine w_aload_n d_L_law_908 rfl ?_
  refine w_vI [] c_L_151 d_L_law_909 rfl hMM (by decide) (m_choose hm ok) (fun v2 w2 hw2 => ?_) rfl rfl (gq rfl) (gq rfl) (gq rfl) (gq rfl) (by omega) (by omega)
  obtain ⟨hv2, gm, hs2⟩ := hw2
  refine w_icmp_eq 1127 d_L_law_912 (by decide) (fun _ => ?_) (fun hn => absurd ((hv1.trans hv2.symm)) hn)
  obtain ⟨gok, gO⟩ : okQ (n + 1) _ _ _ _ _ _ _ _ ∧ w2 94 = aJ X 1 u := ⟨ok_mono ok hn, (hs2 94 (Or.inr (by decide))).trans ((hs 94 (by decide)).trans hO)⟩
  have gc := gc.keep (w := w2) (fun q hq => hs2 q (Or.inl (by omega)))
  exact w_less (Nat.le_refl _) (Nat.le_refl _) (by omega) (by omega) (kk _ ⟨_, _, _, _, _, _, _, _, _, _, gc, gm, gok, gO⟩)
theorem k_costOf (hX : X.l.stackTraces = false) (h : cls X a c t k o l p d b r) (hm : mdl X a c th t k o l p d b r) (ok : okQ n t k o l p d b r) (hn : n < 600) (hO : c 94 = aJ X 1 u) (hi : i + 5 ≤ X.sl) (hsl : X.sl < 2 ^ 31) (hC : 4 ≤ C) (hS : 24 ≤ S) (kk : ∀ w, lwI X a w (n + 1) → GW X a m_L_law 11 388 (C - 4) (S - 24) 1127 [(0, .ref X.sb), (1, .ref (a 0)), (2, .ref (a 79)), (3, .ref (a 94)), (4, .int (nI i))] [] w PL) : GW X a m_L_law 11 388 C S 917 [(0, .ref X.sb), (1, .ref (a 0)), (2, .ref (a 79)), (3, .ref (a 94)), (4, .int (nI i))] [] c PL := by
  refine w_aload_n d_L_law_917 rfl ?_
  refine w_aload_n d_L_law_918 rfl ?_
  refine w_iload d_L_law_919 rfl ?_
  refine w_iconst 1 d_L_law_921 (by decide) ?_
  refine w_iadd d_L_law_922 ?_
  refine w_sald d_L_law_923 (nI_add i 1) (by omega) hsl ?_
  refine w_aload_n d_L_law_924 rfl ?_
  refine w_sI [_, _, _] c_L_152 d_L_law_925 (l_costOf hX h ok hO) (fun v w1 hw1 => ?_) rfl rfl (gq rfl) (gq rfl) (gq rfl) (gq rfl) (by omega) (by omega)
  obtain ⟨hD, hs⟩ := hw1
  have hm := hm.keepL hs
  obtain ⟨sc, hMM⟩ := hm.M
  refine w_istore d_L_law_928 (by decide) ?_
  refine w_aload_n d_L_law_930 rfl ?_
  refine w_aload_n d_L_law_931 rfl ?_
  refine w_iload d_L_law_932 rfl ?_
  refine w_iconst 1 d_L_law_934 (by decide) ?_
  refine w_iadd d_L_law_935 ?_
  refine w_sald d_L_law_936 (nI_add i 1) (by omega) hsl ?_
  refine w_vJ [_] c_L_154 d_L_law_937 rfl hMM (by decide) (m_costOf hm ok) (fun v2 w2 hw2 => ?_) rfl rfl (gq rfl) (gq rfl) (gq rfl) (gq rfl) (by omega) (by omega)
  obtain ⟨hE, hs2⟩ := hw2
  obtain ⟨t', k', o', l', p', d', b', r', u', gc, gm, gok, gO, gQ⟩ : agr X a w2 n v (fun q => q = v2) := by
    have ht := ok.1
    have hr := ok.2.2.2.2.2.2.2.1.1
    have hd := ok.2.2.2.2.2.1.1
    rcases hD with ⟨rfl, m, m1, ⟨u', e1, e2⟩, gc⟩ | ⟨rfl, h1, e1, gc⟩
    · rcases hE with ⟨m', k1, rfl, gm⟩ | ⟨g1, gm⟩
      · obtain rfl : m = m' := nI_e m1.2 k1.2 (by omega) (by omega)
        exact ag hs2 gc gm (ok_mono ok hn) e1 (fun _ => e2)
      · exact absurd ⟨m, m1⟩ g1
    · rcases hE with ⟨m', k1, -, gm⟩ | ⟨g1, gm⟩
      · exact absurd ⟨m', k1⟩ h1
      · exact ag hs2 gc gm (ok_mono ok hn) e1 (fun z => absurd z (by decide))
  obtain ⟨sc', hM2⟩ := gm.M
  refine w_lstore d_L_law_940 (by decide) ?_
  refine w_aload_n d_L_law_942 rfl ?_
  refine w_vI [] c_L_89 d_L_law_943 rfl hM2 (by decide) (m_thrown hM2) (fun x w hw => ?_) rfl rfl (gq rfl) (gq rfl) (gq rfl) (gq rfl) (by omega) (by omega)
  obtain ⟨rfl, rfl⟩ := hw
  refine w_iload d_L_law_946 rfl ?_
  refine w_icmp_eq 953 d_L_law_948 (by decide) (fun _ => ?_) (fun hn => absurd (rfl) hn)
  refine w_iload d_L_law_953 rfl ?_
  refine w_if_ne 969 d_L_law_955 (by decide) (fun hv => ?_) (fun hv => ?_)
  · -- taken
    refine w_goto 1127 d_L_law_969 (by decide) ?_
    exact w_sel [0, 1, 2, 3, 4] rfl (w_less (Nat.le_refl _) (Nat.le_refl _) (by omega) (by omega) (kk _ ⟨_, _, _, _, _, _, _, _, _, _, gc, gm, gok, gO⟩))
  · -- not taken
    refine w_aload_n d_L_law_958 rfl ?_
    refine w_iconst 0 d_L_law_959 (by decide) ?_
    refine w_lald d_L_law_960 gO (show (0 : Int32) = nI 0 from rfl) (by decide : 0 < 1) (by decide) (by decide) ?_
    refine w_lload d_L_law_961 rfl ?_
    refine w_lcmp d_L_law_963 ?_
    refine w_if_eq 969 d_L_law_964 (by decide) (fun _ => ?_) (fun hn => absurd (((lcmp_eq _ _).mpr (gQ hv))) hn)
    refine w_goto 1127 d_L_law_969 (by decide) ?_
    exact w_sel [0, 1, 2, 3, 4] rfl (w_less (Nat.le_refl _) (Nat.le_refl _) (by omega) (by omega) (kk _ ⟨_, _, _, _, _, _, _, _, _, _, gc, gm, gok, gO⟩))
theorem k_build (hX : X.l.stackTraces = false) (h : cls X a c t k o l p d b r) (hm : mdl X a c th t k o l p d b r) (ok : okQ n t k o l p d b r) (hn : n < 600) (hO : c 94 = aJ X 1 u) (hi : i + 5 ≤ X.sl) (hsl : X.sl < 2 ^ 31) (hC : 4 ≤ C) (hS : 24 ≤ S) (kk : ∀ w, lwI X a w (n + 1) → GW X a m_L_law 11 388 (C - 4) (S - 24) 1127 [(0, .ref X.sb), (1, .ref (a 0)), (2, .ref (a 79)), (3, .ref (a 94)), (4, .int (nI i))] [] w PL) : GW X a m_L_law 11 388 C S 972 [(0, .ref X.sb), (1, .ref (a 0)), (2, .ref (a 79)), (3, .ref (a 94)), (4, .int (nI i))] [] c PL := by
  refine w_aload_n d_L_law_972 rfl ?_
  refine w_aload_n d_L_law_973 rfl ?_
  refine w_iload d_L_law_974 rfl ?_
  refine w_iconst 1 d_L_law_976 (by decide) ?_
  refine w_iadd d_L_law_977 ?_
  refine w_sald d_L_law_978 (nI_add i 1) (by omega) hsl ?_
  refine w_sI [_, _] c_L_155 d_L_law_979 (l_build hX h ok) (fun v w1 hw1 => ?_) rfl rfl (gq rfl) (gq rfl) (gq rfl) (gq rfl) (by omega) (by omega)
  obtain ⟨hD, hs⟩ := hw1
  have e1 := (hs 94 (by decide)).trans hO
  have hm := hm.keepL (sameL_a hs)
  obtain ⟨sc, hMM⟩ := hm.M
  refine w_istore d_L_law_982 (by decide) ?_
  refine w_aload_n d_L_law_984 rfl ?_
  refine w_aload_n d_L_law_985 rfl ?_
  refine w_iload d_L_law_986 rfl ?_
  refine w_iconst 1 d_L_law_988 (by decide) ?_
  refine w_iadd d_L_law_989 ?_
  refine w_sald d_L_law_990 (nI_add i 1) (by omega) hsl ?_
  refine w_vV [_] c_L_157 d_L_law_991 rfl hMM (by decide) (m_build hm ok) (fun w2 hw2 => ?_) rfl rfl (gq rfl) (gq rfl) (gq rfl) (gq rfl) (by omega) (by omega)
  obtain ⟨hE, hs2⟩ := hw2
  obtain ⟨t', k', o', l', p', d', b', r', u', gc, gm, gok, gO, gQ⟩ : agr X a w2 n v (fun _ => True) := by
    have ht := ok.1
    have hr := ok.2.2.2.2.2.2.2.1.1
    have hd := ok.2.2.2.2.2.1.1
    rcases hD with ⟨rfl, j, j1, h2, h3, gc⟩ | ⟨rfl, h1, gc⟩ | ⟨rfl, ⟨j, j1, h2⟩, gc⟩
    · rcases hE with ⟨j', k1, k2, k3, gm⟩ | ⟨g1, gm⟩ | ⟨⟨j', k1, k2⟩, gm⟩
      · obtain rfl : j = j' := nI_e j1.2 k1.2 (by omega) (by omega)
        exact ag hs2 gc gm (ok_build ok hn j1.1) e1 (fun _ => trivial)
      · exact absurd ⟨j, j1⟩ g1
      · obtain rfl : j = j' := nI_e j1.2 k1.2 (by omega) (by omega)
        exact absurd ⟨h2, h3⟩ k2
    · rcases hE with ⟨j', k1, k2, k3, gm⟩ | ⟨g1, gm⟩ | ⟨⟨j', k1, k2⟩, gm⟩
      · exact absurd ⟨j', k1⟩ h1
      · exact ag hs2 gc gm (ok_mono ok hn) e1 (fun z => absurd z (by decide))
      · exact absurd ⟨j', k1⟩ h1
    · rcases hE with ⟨j', k1, k2, k3, gm⟩ | ⟨g1, gm⟩ | ⟨⟨j', k1, k2⟩, gm⟩
      · obtain rfl : j = j' := nI_e j1.2 k1.2 (by omega) (by omega)
        exact absurd ⟨k2, k3⟩ h2
      · exact absurd ⟨j, j1⟩ g1
      · exact ag hs2 gc gm (ok_mono ok hn) e1 (fun z => absurd z (by decide))
  obtain ⟨sc', hM2⟩ := gm.M
  refine w_aload_n d_L_law_994 rfl ?_
  refine w_vI [] c_L_89 d_L_law_995 rfl hM2 (by decide) (m_thrown hM2) (fun x w hw => ?_) rfl rfl (gq rfl) (gq rfl) (gq rfl) (gq rfl) (by omega) (by omega)
  obtain ⟨rfl, rfl⟩ := hw
  refine w_iload d_L_law_998 rfl ?_
  refine w_icmp_eq 1005 d_L_law_1000 (by decide) (fun _ => ?_) (fun hn => absurd (rfl) hn)
  refine w_goto 1127 d_L_law_1005 (by decide) ?_
  exact w_sel [0, 1, 2, 3, 4] rfl (w_less (Nat.le_refl _) (Nat.le_refl _) (by omega) (by omega) (kk _ ⟨_, _, _, _, _, _, _, _, _, _, gc, gm, gok, gO⟩))
theorem k_work (hX : X.l.stackTraces = false) (h : cls X a c t k o l p d b r) (hm : mdl X a c th t k o l p d b r) (ok : okQ n t k o l p d b r) (hn : n < 600) (hO : c 94 = aJ X 1 u) (hi : i + 5 ≤ X.sl) (hsl : X.sl < 2 ^ 31) (hC : 4 ≤ C) (hS : 24 ≤ S) (kk : ∀ w, lwI X a w (n + 1) → GW X a m_L_law 11 388 (C - 4) (S - 24) 1127 [(0, .ref X.sb), (1, .ref (a 0)), (2, .ref (a 79)), (3, .ref (a 94)), (4, .int (nI i))] [] w PL) : GW X a m_L_law 11 388 C S 1008 [(0, .ref X.sb), (1, .ref (a 0)), (2, .ref (a 79)), (3, .ref (a 94)), (4, .int (nI i))] [] c PL := by
  refine w_aload_n d_L_law_1008 rfl ?_
  refine w_aload_n d_L_law_1009 rfl ?_
  refine w_iload d_L_law_1010 rfl ?_
  refine w_iconst 1 d_L_law_1012 (by decide) ?_
  refine w_iadd d_L_law_1013 ?_
  refine w_sald d_L_law_1014 (nI_add i 1) (by omega) hsl ?_
  refine w_aload_n d_L_law_1015 rfl ?_
  refine w_sI [_, _, _] c_L_158 d_L_law_1016 (l_work hX h ok hO) (fun v w1 hw1 => ?_) rfl rfl (gq rfl) (gq rfl) (gq rfl) (gq rfl) (by omega) (by omega)
  obtain ⟨hD, hs⟩ := hw1
  have hm := hm.keepL hs
  obtain ⟨sc, hMM⟩ := hm.M
  refine w_istore d_L_law_1019 (by decide) ?_
  refine w_aload_n d_L_law_1021 rfl ?_
  refine w_aload_n d_L_law_1022 rfl ?_
  refine w_iload d_L_law_1023 rfl ?_
  refine w_iconst 1 d_L_law_1025 (by decide) ?_
  refine w_iadd d_L_law_1026 ?_
  refine w_sald d_L_law_1027 (nI_add i 1) (by omega) hsl ?_
  refine w_vI [_] c_L_160 d_L_law_1028 rfl hMM (by decide) (m_work hm ok) (fun v2 w2 hw2 => ?_) rfl rfl (gq rfl) (gq rfl) (gq rfl) (gq rfl) (by omega) (by omega)
  obtain ⟨hE, hs2⟩ := hw2
  obtain ⟨t', k', o', l', p', d', b', r', u', gc, gm, gok, gO, gQ⟩ : agr X a w2 n v (fun q => q = Int32.toInt64 v2) := by
    have ht := ok.1
    have hr := ok.2.2.2.2.2.2.2.1.1
    have hd := ok.2.2.2.2.2.1.1
    rcases hD with ⟨rfl, m, m1, h2, ⟨u', e1, e2⟩, gc⟩ | ⟨rfl, h1, e1, gc⟩ | ⟨rfl, h1, h2, e1, gc⟩
    · rcases hE with ⟨m', k1, k2, rfl, gm⟩ | ⟨g1, gm⟩ | ⟨g1, g2, gm⟩
      · obtain rfl : m = m' := nI_e m1.2.2 k1.2.2 (by omega) (by omega)
        exact ag hs2 gc gm (ok_work ok hn m) e1 (fun _ => e2)
      · exact absurd ⟨m, m1⟩ g1
      · exact absurd g2 h2
    · rcases hE with ⟨m', k1, k2, -, gm⟩ | ⟨g1, gm⟩ | ⟨g1, g2, gm⟩
      · exact absurd ⟨m', k1⟩ h1
      · exact ag hs2 gc gm (ok_mono ok hn) e1 (fun z => absurd z (by decide))
      · exact absurd g1 h1
    · rcases hE with ⟨m', k1, k2, -, gm⟩ | ⟨g1, gm⟩ | ⟨g1, g2, gm⟩
      · exact absurd h2 k2
      · exact absurd h1 g1
      · exact ag hs2 gc gm (ok_mono ok hn) e1 (fun z => absurd z (by decide))
  obtain ⟨sc', hM2⟩ := gm.M
  refine w_istore d_L_law_1031 (by decide) ?_
  refine w_aload_n d_L_law_1033 rfl ?_
  refine w_vI [] c_L_89 d_L_law_1034 rfl hM2 (by decide) (m_thrown hM2) (fun x w hw => ?_) rfl rfl (gq rfl) (gq rfl) (gq rfl) (gq rfl) (by omega) (by omega)
  obtain ⟨rfl, rfl⟩ := hw
  refine w_iload d_L_law_1037 rfl ?_
  refine w_icmp_eq 1044 d_L_law_1039 (by decide) (fun _ => ?_) (fun hn => absurd (rfl) hn)
  refine w_iload d_L_law_1044 rfl ?_
  refine w_if_ne 1061 d_L_law_1046 (by decide) (fun hv => ?_) (fun hv => ?_)
  · -- taken
    refine w_goto 1127 d_L_law_1061 (by decide) ?_
    exact w_sel [0, 1, 2, 3, 4] rfl (w_less (Nat.le_refl _) (Nat.le_refl _) (by omega) (by omega) (kk _ ⟨_, _, _, _, _, _, _, _, _, _, gc, gm, gok, gO⟩))
  · -- not taken
    refine w_aload_n d_L_law_1049 rfl ?_
    refine w_iconst 0 d_L_law_1050 (by decide) ?_
    refine w_lald d_L_law_1051 gO (show (0 : Int32) = nI 0 from rfl) (by decide : 0 < 1) (by decide) (by decide) ?_
    refine w_iload d_L_law_1052 rfl ?_
    refine w_i2l d_L_law_1054 ?_
    refine w_lcmp d_L_law_1055 ?_
    refine w_if_eq 1061 d_L_law_1056 (by decide) (fun _ => ?_) (fun hn => absurd (((lcmp_eq _ _).mpr (gQ hv))) hn)
    refine w_goto 1127 d_L_law_1061 (by decide) ?_
    exact w_sel [0, 1, 2, 3, 4] rfl (w_less (Nat.le_refl _) (Nat.le_refl _) (by omega) (by omega) (kk _ ⟨_, _, _, _, _, _, _, _, _, _, gc, gm, gok, gO⟩))
theorem k_drop (hX : X.l.stackTraces = false) (h : cls X a c t k o l p d b r) (hm : mdl X a c th t k o l p d b r) (ok : okQ n t k o l p d b r) (hn : n < 600) (hO : c 94 = aJ X 1 u) (hi : i + 5 ≤ X.sl) (hsl : X.sl < 2 ^ 31) (hC : 4 ≤ C) (hS : 24 ≤ S) (kk : ∀ w, lwI X a w (n + 1) → GW X a m_L_law 11 388 (C - 4) (S - 24) 1127 [(0, .ref X.sb), (1, .ref (a 0)), (2, .ref (a 79)), (3, .ref (a 94)), (4, .int (nI i))] [] w PL) : GW X a m_L_law 11 388 C S 1064 [(0, .ref X.sb), (1, .ref (a 0)), (2, .ref (a 79)), (3, .ref (a 94)), (4, .int (nI i))] [] c PL := by
  refine w_aload_n d_L_law_1064 rfl ?_
  refine w_aload_n d_L_law_1065 rfl ?_
  refine w_iload d_L_law_1066 rfl ?_
  refine w_iconst 1 d_L_law_1068 (by decide) ?_
  refine w_iadd d_L_law_1069 ?_
  refine w_sald d_L_law_1070 (nI_add i 1) (by omega) hsl ?_
  refine w_aload_n d_L_law_1071 rfl ?_
  refine w_sI [_, _, _] c_L_161 d_L_law_1072 (l_drop hX h ok hO) (fun v w1 hw1 => ?_) rfl rfl (gq rfl) (gq rfl) (gq rfl) (gq rfl) (by omega) (by omega)
  obtain ⟨hD, hs⟩ := hw1
  have hm := hm.keepL hs
  obtain ⟨sc, hMM⟩ := hm.M
  refine w_istore d_L_law_1075 (by decide) ?_
  refine w_aload_n d_L_law_1077 rfl ?_
  refine w_aload_n d_L_law_1078 rfl ?_
  refine w_iload d_L_law_1079 rfl ?_
  refine w_iconst 1 d_L_law_1081 (by decide) ?_
  refine w_iadd d_L_law_1082 ?_
  refine w_sald d_L_law_1083 (nI_add i 1) (by omega) hsl ?_
  refine w_vI [_] c_L_163 d_L_law_1084 rfl hMM (by decide) (m_drop hm ok) (fun v2 w2 hw2 => ?_) rfl rfl (gq rfl) (gq rfl) (gq rfl) (gq rfl) (by omega) (by omega)
  obtain ⟨hE, hs2⟩ := hw2
  obtain ⟨t', k', o', l', p', d', b', r', u', gc, gm, gok, gO, gQ⟩ : agr X a w2 n v (fun q => q = (if v2 = 0 then 0 else 1 : Int64)) := by
    have ht := ok.1
    have hr := ok.2.2.2.2.2.2.2.1.1
    have hd := ok.2.2.2.2.2.1.1
    rcases hD with ⟨rfl, j, j1, ⟨u', e1, e2⟩, gc⟩ | ⟨rfl, h1, e1, gc⟩
    · rcases hE with ⟨j', k1, rfl, gm⟩ | ⟨g1, gm⟩
      · obtain rfl : j = j' := nI_e j1.2 k1.2 (by omega) (by omega)
        exact ag hs2 gc gm (ok_drop ok hn j) e1 (fun _ => e2.trans (by by_cases z : b.2.2.2 j = 0 <;> simp [bI, z]))
      · exact absurd ⟨j, j1⟩ g1
    · rcases hE with ⟨j', k1, -, gm⟩ | ⟨g1, gm⟩
      · exact absurd ⟨j', k1⟩ h1
      · exact ag hs2 gc gm (ok_mono ok hn) e1 (fun z => absurd z (by decide))
  obtain ⟨sc', hM2⟩ := gm.M
  refine w_istore d_L_law_1087 (by decide) ?_
  refine w_aload_n d_L_law_1089 rfl ?_
  refine w_vI [] c_L_89 d_L_law_1090 rfl hM2 (by decide) (m_thrown hM2) (fun x w hw => ?_) rfl rfl (gq rfl) (gq rfl) (gq rfl) (gq rfl) (by omega) (by omega)
  obtain ⟨rfl, rfl⟩ := hw
  refine w_iload d_L_law_1093 rfl ?_
  refine w_icmp_eq 1100 d_L_law_1095 (by decide) (fun _ => ?_) (fun hn => absurd (rfl) hn)
  refine w_iload d_L_law_1100 rfl ?_
  refine w_if_ne 1124 d_L_law_1102 (by decide) (fun hv => ?_) (fun hv => ?_)
  · -- taken
    refine w_goto 1127 d_L_law_1124 (by decide) ?_
    exact w_sel [0, 1, 2, 3, 4] rfl (w_less (Nat.le_refl _) (Nat.le_refl _) (by omega) (by omega) (kk _ ⟨_, _, _, _, _, _, _, _, _, _, gc, gm, gok, gO⟩))
  · -- not taken
    refine w_aload_n d_L_law_1105 rfl ?_
    refine w_iconst 0 d_L_law_1106 (by decide) ?_
    refine w_lald d_L_law_1107 gO (show (0 : Int32) = nI 0 from rfl) (by decide : 0 < 1) (by decide) (by decide) ?_
    refine w_iload d_L_law_1108 rfl ?_
    refine w_if_eq 1117 d_L_law_1110 (by decide) (fun hz => ?_) (fun hz => ?_)
    · -- taken
      refine w_lconst 0 d_L_law_1117 (by decide) ?_
      refine w_lcmp d_L_law_1118 ?_
      refine w_if_eq 1124 d_L_law_1119 (by decide) (fun _ => ?_) (fun hn => absurd (((lcmp_eq _ _).mpr ((gQ hv).trans (if_pos hz)))) hn)
      refine w_goto 1127 d_L_law_1124 (by decide) ?_
      exact w_sel [0, 1, 2, 3, 4] rfl (w_less (Nat.le_refl _) (Nat.le_refl _) (by omega) (by omega) (kk _ ⟨_, _, _, _, _, _, _, _, _, _, gc, gm, gok, gO⟩))
    · -- not taken
      refine w_lconst 1 d_L_law_1113 (by decide) ?_
      refine w_goto 1118 d_L_law_1114 (by decide) ?_
      refine w_lcmp d_L_law_1118 ?_
      refine w_if_eq 1124 d_L_law_1119 (by decide) (fun _ => ?_) (fun hn => absurd (((lcmp_eq _ _).mpr ((gQ hv).trans (if_neg hz)))) hn)
      refine w_goto 1127 d_L_law_1124 (by decide) ?_
      exact w_sel [0, 1, 2, 3, 4] rfl (w_less (Nat.le_refl _) (Nat.le_refl _) (by omega) (by omega) (kk _ ⟨_, _, _, _, _, _, _, _, _, _, gc, gm, gok, gO⟩))
end LK
