/-! The model: choose -/
section MBS
variable {X : gX} {a : Nat → Nat} {m : QM} {t : QT} {k : QC} {o : QO} {l : QL} {p : QP} {d : QD} {b : QB} {n q : Nat} {r : List Nat} {th : Int32} {an : Nat} {c : Nat → va_E}
abbrev bsQ (t : QT) (d : QD) (bd i : Nat) : Nat × Int64 := bsGo (setQ t d) (szo (leavesOf (liv t))) bd i
theorem m_bsGo {CC WW : Nat → Int32} (ht : t.1 ≤ 64) (hd : d.1 ≤ 8) (hbd : o.2.2 ≤ 200) (hM : c 79 = oM a m t o l p d b an) (hH : c 80 = aZ X 64 t.2.2) (hC : c 93 = aI X 73 CC) (hcs : mcs t d CC) (hW : c 88 = aI X 8 WW) (hww : ∀ i, i < d.1 → WW i = nI (d.2.2 i).2.2.2) :
    ∀ (e i : Nat), i + e = 511 → GW X a m_M_choose 6 138 0 0 20 [(0, .ref (a 79)), (1, .int (nI (bsQ t d o.2.2 i).1)), (2, .long (bsQ t d o.2.2 i).2), (4, .int (nI (i + 1)))] [] c (pI (eI (nI (bsQ t d o.2.2 511).1) c)) := by
  have hsz := szo_le (leaves_le (liv_le t ht)).1
  intro e
  induction e with
  | zero =>
    intro i hi
    have hi' : i = 511 := by omega
    subst hi'
    refine w_iload d_M_choose_20 rfl ?_
    refine w_sipush 512 d_M_choose_22 (by decide) ?_
    refine w_icmp_ge 116 d_M_choose_25 (by decide) (fun _ => ?_) (fun hn => absurd ((by decide)) hn)
    refine w_iload_n d_M_choose_116 rfl ?_
    exact w_iret d_M_choose_117 rfl (⟨_, rfl, rfl, rfl⟩)
  | succ e ih =>
    intro i hi
    have key := ih (i + 1) (by omega)
    have hb := bsGo_le (setQ t d) (szo (leavesOf (liv t))) o.2.2 i
    have hpc := popc_le (i + 1)
    have hmul : popc (i + 1) * szo (leavesOf (liv t)) ≤ 9 * 21 := Nat.mul_le_mul hpc hsz
    have hsum := m_sumOf (X := X) (a := a) (c := c) (s := i + 1) ht hd (by omega) hM hH hC hcs hW hww
    unfold bsQ at key ⊢
    generalize hsc : setQ t d = sc at key hb hsum ⊢
    generalize hbk : bsGo sc (szo (leavesOf (liv t))) o.2.2 i = B at hb ⊢
    have no : ¬ (popc (i + 1) * szo (leavesOf (liv t)) ≤ o.2.2 ∧ (sc (i + 1) < B.2 ∨ (sc (i + 1) = B.2 ∧ popc (i + 1) < popc B.1))) → bsGo sc (szo (leavesOf (liv t))) o.2.2 (i + 1) = B := fun z => by rw [bsGo, hbk, if_neg z]
    have yes : (popc (i + 1) * szo (leavesOf (liv t)) ≤ o.2.2 ∧ (sc (i + 1) < B.2 ∨ (sc (i + 1) = B.2 ∧ popc (i + 1) < popc B.1))) → bsGo sc (szo (leavesOf (liv t))) o.2.2 (i + 1) = (i + 1, sc (i + 1)) := fun z => by rw [bsGo, hbk, if_pos z]
    have noK : bsGo sc (szo (leavesOf (liv t))) o.2.2 (i + 1) = B → GW X a m_M_choose 6 138 0 0 83 [(0, .ref (a 79)), (1, .int (nI B.1)), (2, .long B.2), (4, .int (nI (i + 1))), (5, .long (sc (i + 1)))] [] c (pI (eI (nI (bsGo sc (szo (leavesOf (liv t))) o.2.2 511).1) c)) := by
      intro z
      rw [z] at key
      refine w_iconst 0 d_M_choose_83 (by decide) ?_
      refine w_istore d_M_choose_84 (by decide) ?_
      refine w_iload d_M_choose_86 rfl ?_
      refine w_if_eq 96 d_M_choose_88 (by decide) (fun _ => ?_) (fun hn => absurd (rfl) hn)
      refine w_iload_n d_M_choose_96 rfl ?_
      refine w_istore_n d_M_choose_97 (by decide) ?_
      refine w_iload d_M_choose_98 rfl ?_
      refine w_if_eq 108 d_M_choose_100 (by decide) (fun _ => ?_) (fun hn => absurd (rfl) hn)
      refine w_lload_n d_M_choose_108 rfl ?_
      refine w_lstore_n d_M_choose_109 (by decide) ?_
      first | refine w_iinc _ d_M_choose_110 rfl (nIinc _) (by decide) ?_ | refine w_iinc _ d_M_choose_110 rfl rfl (by decide) ?_
      refine w_goto 20 d_M_choose_113 (by decide) ?_
      exact w_sel [0, 1, 2, 4] rfl key
    have yesK : bsGo sc (szo (leavesOf (liv t))) o.2.2 (i + 1) = (i + 1, sc (i + 1)) → GW X a m_M_choose 6 138 0 0 79 [(0, .ref (a 79)), (1, .int (nI B.1)), (2, .long B.2), (4, .int (nI (i + 1))), (5, .long (sc (i + 1)))] [] c (pI (eI (nI (bsGo sc (szo (leavesOf (liv t))) o.2.2 511).1) c)) := by
      intro z
      rw [z] at key
      refine w_iconst 1 d_M_choose_79 (by decide) ?_
      refine w_goto 84 d_M_choose_80 (by decide) ?_
      refine w_istore d_M_choose_84 (by decide) ?_
      refine w_iload d_M_choose_86 rfl ?_
      refine w_if_eq 96 d_M_choose_88 (by decide) (fun hn => absurd hn ((by decide))) (fun _ => ?_)
      refine w_iload d_M_choose_91 rfl ?_
      refine w_goto 97 d_M_choose_93 (by decide) ?_
      refine w_istore_n d_M_choose_97 (by decide) ?_
      refine w_iload d_M_choose_98 rfl ?_
      refine w_if_eq 108 d_M_choose_100 (by decide) (fun hn => absurd hn ((by decide))) (fun _ => ?_)
      refine w_lload d_M_choose_103 rfl ?_
      refine w_goto 109 d_M_choose_105 (by decide) ?_
      refine w_lstore_n d_M_choose_109 (by decide) ?_
      first | refine w_iinc _ d_M_choose_110 rfl (nIinc _) (by decide) ?_ | refine w_iinc _ d_M_choose_110 rfl rfl (by decide) ?_
      refine w_goto 20 d_M_choose_113 (by decide) ?_
      exact w_sel [0, 1, 2, 4] rfl key
    refine w_iload d_M_choose_20 rfl ?_
    refine w_sipush 512 d_M_choose_22 (by decide) ?_
    refine w_icmp_ge 116 d_M_choose_25 (by decide) (fun hn => absurd hn (fun z => absurd ((nI_leI (a := 512) (by decide) (by omega)).mp z) (by omega))) (fun _ => ?_)
    refine w_iload d_M_choose_28 rfl ?_
    refine w_sI [_] c_M_214 d_M_choose_30 (m_members (s := i + 1) (by omega)) (fun x w hw => ?_) rfl rfl (gq rfl) (gq rfl) (gq rfl) (gq rfl) (gq rfl) (gq rfl)
    obtain ⟨rfl, rfl⟩ := hw
    refine w_aload_n d_M_choose_33 rfl ?_
    refine w_vI [] c_M_129 d_M_choose_34 rfl hM (by decide) (m_size hM hH ht) (fun x w hw => ?_) rfl rfl (gq rfl) (gq rfl) (gq rfl) (gq rfl) (gq rfl) (gq rfl)
    obtain ⟨rfl, rfl⟩ := hw
    refine w_imul d_M_choose_37 ?_
    rw [pk_mul]
    refine w_aload_n d_M_choose_38 rfl ?_
    refine w_getf g_M_48 d_M_choose_39 hM rfl (by decide) ?_
    refine w_icmp_gt 110 d_M_choose_42 (by decide) (fun hg => ?_) (fun hg => ?_)
    · -- taken
      have hg' : o.2.2 < popc (i + 1) * szo (leavesOf (liv t)) := (nI_ltI (by omega) (by omega)).mp hg
      rw [no (fun z => by omega)] at key
      first | refine w_iinc _ d_M_choose_110 rfl (nIinc _) (by decide) ?_ | refine w_iinc _ d_M_choose_110 rfl rfl (by decide) ?_
      refine w_goto 20 d_M_choose_113 (by decide) ?_
      exact w_sel [0, 1, 2, 4] rfl key
    · -- not taken
      have hg' : popc (i + 1) * szo (leavesOf (liv t)) ≤ o.2.2 := Nat.not_lt.mp (fun z => hg ((nI_ltI (by omega) (by omega)).mpr z))
      refine w_aload_n d_M_choose_45 rfl ?_
      refine w_iload d_M_choose_46 rfl ?_
      refine w_vJ [_] c_M_220 d_M_choose_48 rfl hM (by decide) (hsum) (fun x w hw => ?_) rfl rfl (gq rfl) (gq rfl) (gq rfl) (gq rfl) (gq rfl) (gq rfl)
      obtain ⟨rfl, rfl⟩ := hw
      refine w_lstore d_M_choose_51 (by decide) ?_
      refine w_lload d_M_choose_53 rfl ?_
      refine w_lload_n d_M_choose_55 rfl ?_
      refine w_lcmp d_M_choose_56 ?_
      refine w_if_lt 79 d_M_choose_57 (by decide) (fun hl => ?_) (fun hl => ?_)
      · -- taken
        have hl' := (lcmp_lt _ _).mp hl
        exact yesK (yes ⟨hg', Or.inl hl'⟩)
      · -- not taken
        have hl' : ¬ sc (i + 1) < B.2 := fun z => hl ((lcmp_lt _ _).mpr z)
        refine w_lload d_M_choose_60 rfl ?_
        refine w_lload_n d_M_choose_62 rfl ?_
        refine w_lcmp d_M_choose_63 ?_
        refine w_if_ne 83 d_M_choose_64 (by decide) (fun he => ?_) (fun he => ?_)
        · -- taken
          have he' : ¬ sc (i + 1) = B.2 := fun z => he ((lcmp_eq _ _).mpr z)
          exact noK (no (fun z => z.2.elim hl' (fun q => he' q.1)))
        · -- not taken
          have he' := (lcmp_eq _ _).mp he
          have hpb := popc_le B.1
          refine w_iload d_M_choose_67 rfl ?_
          refine w_sI [_] c_M_214 d_M_choose_69 (m_members (s := i + 1) (by omega)) (fun x w hw => ?_) rfl rfl (gq rfl) (gq rfl) (gq rfl) (gq rfl) (gq rfl) (gq rfl)
          obtain ⟨rfl, rfl⟩ := hw
          refine w_iload_n d_M_choose_72 rfl ?_
          refine w_sI [_] c_M_214 d_M_choose_73 (m_members (s := B.1) (by omega)) (fun x w hw => ?_) rfl rfl (gq rfl) (gq rfl) (gq rfl) (gq rfl) (gq rfl) (gq rfl)
          obtain ⟨rfl, rfl⟩ := hw
          refine w_icmp_ge 83 d_M_choose_76 (by decide) (fun hp => ?_) (fun hp => ?_)
          · -- taken
            have hp' : popc B.1 ≤ popc (i + 1) := (nI_leI (by omega) (by omega)).mp hp
            exact noK (no (fun z => z.2.elim hl' (fun q => by omega)))
          · -- not taken
            have hp' : popc (i + 1) < popc B.1 := Nat.not_le.mp (fun z => hp ((nI_leI (by omega) (by omega)).mpr z))
            exact yesK (yes ⟨hg', Or.inr ⟨he', hp'⟩⟩)
theorem m_choose (h : mdl X a c th t k o l p d b r) (ok : okQ n t k o l p d b r) : GW X a m_M_choose 6 138 0 0 0 (lv_args 0 [.ref (a 79)]) [] c (pI (fun v w => v = nI (bstQ t d o.2.2) ∧ mdl X a w 0 t k o l p d b r ∧ sameM c w)) := by
  obtain ⟨sc, hM⟩ := h.M
  have hm := h.thr1 (th' := 0) (sc := sc)
  refine w_aload_n d_M_choose_0 rfl ?_
  refine w_iconst 0 d_M_choose_1 (by decide) ?_
  refine w_putf p_M_72 d_M_choose_2 hM rfl rfl (gqL rfl) (by decide) ?_
  refine w_aload_n d_M_choose_5 rfl ?_
  refine w_vV [] c_M_217 d_M_choose_6 rfl va_s (by decide) (m_findCosts hm ok) (fun w hw => ?_) rfl rfl (gq rfl) (gq rfl) (gq rfl) (gq rfl) (gq rfl) (gq rfl)
  obtain ⟨⟨sc1, u1⟩, u2, ⟨CC, u3, u4⟩, u5⟩ := hw
  have hm1 := hm.fc ⟨sc1, u1⟩ u2 ⟨CC, u3, u4⟩ u5
  obtain ⟨WW, w1, w2⟩ := hm1.W
  refine w_iconst 0 d_M_choose_9 (by decide) ?_
  refine w_istore_n d_M_choose_10 (by decide) ?_
  refine w_aload_n d_M_choose_11 rfl ?_
  refine w_iconst 0 d_M_choose_12 (by decide) ?_
  refine w_vJ [_] c_M_220 d_M_choose_13 rfl u1 (by decide) (m_sumOf (s := 0) ok.1 ok.2.2.2.2.2.1.1 (by decide) u1 hm1.H u3 u4 w1 w2) (fun x w hw => ?_) rfl rfl (gq rfl) (gq rfl) (gq rfl) (gq rfl) (gq rfl) (gq rfl)
  obtain ⟨rfl, rfl⟩ := hw
  refine w_lstore_n d_M_choose_16 (by decide) ?_
  refine w_iconst 1 d_M_choose_17 (by decide) ?_
  refine w_istore d_M_choose_18 (by decide) ?_
  refine w_post (fun r w' hw => ?_) (m_bsGo ok.1 ok.2.2.2.2.2.1.1 ok.2.2.1.2.2 u1 hm1.H u3 u4 w1 w2 511 0 rfl)
  obtain ⟨v, q0, q1, q2⟩ := hw
  subst q2
  exact ⟨v, q0, q1.symm, hm1, sameM_t (sameM_up (by decide) (by decide)) (sameM_of u5 (by simp))⟩
end MBS
