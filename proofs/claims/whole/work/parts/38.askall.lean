/-! SelfArranger: shape, ask -/
theorem led.way {X : gX} {a : Nat → Nat} {c w : Nat → va_E} {cnt ch q : Nat} {pm : Nat → Nat} {D : SH} (h : led X a c cnt ch pm D) (hs : same c w [8, 9, 10, 23 + 7 * q, 23 + 7 * q + 1]) (hq : q < 8) {hp : Int32} {g : Nat → Int32} (h1 : w (23 + 7 * q) = oW a (23 + 7 * q) hp) (h2 : w (23 + 7 * q + 1) = aI X 9 g) : led X a w cnt ch pm D := by
  obtain ⟨l1, ⟨sf, l2, l3⟩, l4, l5⟩ := h
  refine ⟨(hs 16 (by simp; omega)).trans l1, ⟨sf, (hs 17 (by simp; omega)).trans l2, l3⟩, l4, fun j hj => ?_⟩
  by_cases e : j = q
  · subst e
    obtain ⟨s1, s2, -⟩ := l5 j hj
    exact ⟨(hs _ (by simp; omega)).trans s1, s2.keep (fun p p1 p2 => hs p (by simp; omega)), hp, g, h1, h2⟩
  · exact (l5 j hj).keep (fun p p1 p2 => hs p (by simp; omega))
theorem note_led {X : gX} {a : Nat → Nat} {w : Nat → va_E} {d : QD} {k : QC} {pm : Nat → Nat} {D : SH} (hp : perm pm) (hk : kOk k.1 k.2.1 k.2.2) (d1 : d.1 ≤ 8) (h2 : ∀ i, i < d.1 → eqS (d.2.2 i) (D (pm i))) (h3 : ∀ i, d.1 ≤ i → i < 8 → (D (pm i)).2.2.2 = 0) (h8 : ¬ plQ d k = 8) {K' F' T' : Nat → Int32}
    (e1 : ∀ i, i < 3 → K' i = k.1 i ∧ F' i = k.2.1 i ∧ T' i = toK k.1 k.2.1 k.2.2 i) (e2 : led X a w (if plQ d k = d.1 then d.1 + 1 else d.1) d.2.1 pm (va_up D (pm (plQ d k)) (K', F', T', (D (pm (plQ d k))).2.2.2 + 16))) : ldg X a w (ntQ d k) := by
  have hle : plQ d k ≤ d.1 := plc_le
  unfold ntQ
  rw [if_neg h8]
  generalize hP : plQ d k = P at h8 e2 hle
  refine ⟨pm, _, e2, fun i hi => ?_, fun i hi1 hi2 => ?_⟩
  · by_cases e : i = P
    · subst e
      simp only [va_s]
      refine ⟨fun j hj => ⟨(e1 j hj).1.symm, (e1 j hj).2.1.symm, ((e1 j hj).2.2.trans (hk j hj).2).symm⟩, ?_⟩
      show (if i = d.1 then 0 else (d.2.2 i).2.2.2) + 16 = (D (pm i)).2.2.2 + 16
      split
      · rename_i z
        rw [h3 i (by omega) (by omega)]
      · rw [(h2 i (by omega)).2]
    · have hi' : i < d.1 := by
        simp only at hi
        split at hi <;> omega
      have hne : pm i ≠ pm P := fun z => e (hp.2 i P (by omega) (by omega) z)
      simp only [va_n (f := d.2.2) e rfl, va_n (f := D) hne rfl]
      exact h2 i hi'
  · simp only at hi1
    have hi' : i ≠ P ∧ d.1 ≤ i := by split at hi1 <;> omega
    have hne : pm i ≠ pm P := fun z => hi'.1 (hp.2 i P (by omega) (by omega) z)
    rw [va_n (f := D) hne rfl]
    exact h3 i hi'.2 hi2
section PD
variable {X : gX} {a : Nat → Nat} {c : Nat → va_E} {t : QT} {k : QC} {o : QO} {l : QL} {p : QP} {d : QD} {b : QB} {r : List Nat} {n : Nat}
theorem a_shape (hX : X.l.stackTraces = false) (h : cls X a c t k o l p d b r) (ok : okQ n t k o l p d b r) {x y : Int32} : GW X a m_A_shape 6 115 2 12 0 (lv_args 0 [.ref (a 0), .int x, .int y]) [] c (pIT (fun v w => ∃ j, (j < d.1 ∧ x = nI j) ∧ ((y = 0 ∧ v = nI (d.2.2 j).2.2.2) ∨ (y = 1 ∧ v = kc (d.2.2 j).1) ∨ (y = 2 ∧ v = lsS t.2.2 t.2.1 t.1 (liv t) (rdyN b.2.2.2 9) (d.2.2 j))) ∧ cls X a w t k o l p d b r ∧ sameA c w)
    (fun e w => e = 2 ∧ ¬ ((∃ j, j < d.1 ∧ x = nI j) ∧ (y = 0 ∨ y = 1 ∨ y = 2)) ∧ c = w)) := by
  obtain ⟨pm, D, hL, h2, h3⟩ := h.D
  have d1 := ok.2.2.2.2.2.1.1
  have hrt := liv_le t ok.1
  obtain ⟨l1, ⟨sf, l2, hsf⟩, l4, l5⟩ := hL
  refine w_iload_n d_A_shape_0 rfl ?_
  refine w_if_lt 15 d_A_shape_1 (by decide) (fun h1 => ?_) (fun h1 => ?_)
  · -- taken
    exact w_throw hX (k := 2) (tx := "no such shape") (by decide) rfl rfl w_671 (by decide) d_A_shape_15 d_A_shape_18 (Or.inl d_A_shape_19) d_A_shape_21 d_A_shape_24 (gq rfl) (gq rfl) (gq rfl) (gq rfl) (gq rfl) (Or.inr ⟨2, rfl, rfl, fun z => by obtain ⟨⟨j, hj, rfl⟩, -⟩ := z; exact nI_n0 (by omega) h1, rfl⟩)
  · -- not taken
    refine w_iload_n d_A_shape_4 rfl ?_
    refine w_aload_n d_A_shape_5 rfl ?_
    refine w_getf g_A_51 d_A_shape_6 h.A rfl (by decide) ?_
    refine w_getf g_A_206 d_A_shape_9 l1 rfl (by decide) ?_
    refine w_icmp_lt 25 d_A_shape_12 (by decide) (fun h5 => ?_) (fun h5 => ?_)
    · -- taken
      obtain ⟨j, hj, rfl⟩ := nn_lt h1 h5 (by omega)
      have hp8 := l4.1 j (by omega)
      obtain ⟨s1, s2, hp0, g0, s3, s4⟩ := l5 (pm j) hp8
      have hjw := (h2 j hj).2
      refine w_aload_n d_A_shape_25 rfl ?_
      refine w_getf g_A_51 d_A_shape_26 h.A rfl (by decide) ?_
      refine w_getf g_A_209 d_A_shape_29 l1 rfl (by decide) ?_
      refine w_iload_n d_A_shape_32 rfl ?_
      refine w_aald d_A_shape_33 l2 rfl (show j < 8 by omega) (by decide) (by decide) ?_
      rw [hsf j (by omega)]
      refine w_astore_n d_A_shape_34 (by decide) ?_
      refine w_iload_n d_A_shape_35 rfl ?_
      rcases (Classical.em (y = 0)) with rfl | n0
      · -- case
        refine w_tabIn 64 d_A_shape_36 (by decide) (by decide) rfl (by decide) ?_
        refine w_aload_n d_A_shape_64 rfl ?_
        refine w_getf g_A_213 d_A_shape_65 s1 rfl (by omega) ?_
        exact w_iret d_A_shape_68 rfl (Or.inl ⟨_, rfl, j, ⟨hj, rfl⟩, Or.inl ⟨rfl, by rw [hjw]⟩, h, sameA_rf⟩)
      · -- case
        rcases (Classical.em (y = 1)) with rfl | n1
        · -- case
          refine w_tabIn 69 d_A_shape_36 (by decide) (by decide) rfl (by decide) ?_
          refine w_aload_n d_A_shape_69 rfl ?_
          refine w_getf g_A_218 d_A_shape_70 s1 rfl (by omega) ?_
          refine w_vI [] c_A_221 d_A_shape_73 rfl s2.1 (by omega) (c_kindsCode s2 (by omega)) (fun x w hw => ?_) rfl rfl (gq rfl) (gq rfl) (gq rfl) (gq rfl) (gq rfl) (gq rfl)
          obtain ⟨rfl, rfl⟩ := hw
          exact w_iret d_A_shape_76 rfl (Or.inl ⟨_, rfl, j, ⟨hj, rfl⟩, Or.inr (Or.inl ⟨rfl, kc_c (fun i hi => ((h2 j hj).1 i hi).1.symm)⟩), h, sameA_rf⟩)
        · -- case
          rcases (Classical.em (y = 2)) with rfl | n2
          · -- case
            refine w_tabIn 77 d_A_shape_36 (by decide) (by decide) rfl (by decide) ?_
            refine w_aload_n d_A_shape_77 rfl ?_
            refine w_getf g_A_224 d_A_shape_78 s1 rfl (by omega) ?_
            refine w_aload_n d_A_shape_81 rfl ?_
            refine w_getf g_A_12 d_A_shape_82 h.A rfl (by decide) ?_
            refine w_aload_n d_A_shape_85 rfl ?_
            refine w_getf g_A_28 d_A_shape_86 h.A rfl (by decide) ?_
            refine w_aload_n d_A_shape_89 rfl ?_
            refine w_getf g_A_218 d_A_shape_90 s1 rfl (by omega) ?_
            refine w_vV [_, _, _] c_A_178 d_A_shape_93 rfl s3 (by omega) (w_measure (qw := 23 + 7 * pm j) (q := 19 + 7 * pm j) ok.1 hrt (by omega) (by omega) (by omega) (by omega) (by omega) h.T h.V h.H s2 h.S s3 s4) (fun w hw => ?_) rfl rfl (gq rfl) (gq rfl) (gq rfl) (gq rfl) (gq rfl) (gq rfl)
            obtain ⟨m1, ⟨g, m2, m3⟩, m4, m5⟩ := hw
            have hA1 : w 0 = oA a o.1 o.2.1 o.2.2 l.1 l.2 := (m5 0 (by simp; omega)).trans h.A
            have hB1 : w 75 = oB a b.1 b.2.1 b.2.2.1 := (m5 75 (by simp; omega)).trans h.B
            have hs1 : w (18 + 7 * pm j) = oH a (pm j) (D (pm j)).2.2.2 := (m5 _ (by simp; omega)).trans s1
            obtain ⟨e1, e2⟩ := wyGo_cong (g := g) (hp := nI (fours t.1)) (m := rdyN b.2.2.2 9) m3 9 (Nat.le_refl _)
            refine w_aload_n d_A_shape_96 rfl ?_
            refine w_getf g_A_224 d_A_shape_97 hs1 rfl (by omega) ?_
            refine w_aload_n d_A_shape_100 rfl ?_
            refine w_getf g_A_67 d_A_shape_101 hA1 rfl (by decide) ?_
            refine w_vI [] c_A_225 d_A_shape_104 rfl hB1 (by decide) (b_readySet hB1 ((m5 76 (by simp; omega)).trans h.s)) (fun x w hw => ?_) rfl rfl (gq rfl) (gq rfl) (gq rfl) (gq rfl) (gq rfl) (gq rfl)
            obtain ⟨rfl, rfl⟩ := hw
            refine w_vI [_] c_A_228 d_A_shape_107 rfl m1 (by omega) (w_least m1 m2 (by omega) (rdyN_512 b.2.2.2)) (fun x w hw => ?_) rfl rfl (gq rfl) (gq rfl) (gq rfl) (gq rfl) (gq rfl) (gq rfl)
            obtain ⟨rfl, rfl⟩ := hw
            have hl : ldg X a w d := ⟨pm, D, led.way ⟨l1, ⟨sf, l2, hsf⟩, l4, l5⟩ m5 hp8 m1 m2, h2, h3⟩
            have hc : cls X a w t k o l p d b r := h.msr m4 hl (fun q hq => m5 q (by simp; omega))
            exact w_iret d_A_shape_110 rfl (Or.inl ⟨_, rfl, j, ⟨hj, rfl⟩, Or.inr (Or.inr ⟨rfl, by rw [ls_c (h2 j hj)]; exact e2⟩), hc, fun q hq => m5 q (by simp; omega)⟩)
          · -- case
            refine w_tabOut 111 d_A_shape_36 (sw_out 3 (by decide) (sw3 n0 n1 n2)) (by decide) ?_
            exact w_throw hX (k := 2) (tx := "no such figure of a shape") (by decide) rfl rfl w_671 (by decide) d_A_shape_111 d_A_shape_114 (Or.inl d_A_shape_115) d_A_shape_117 d_A_shape_120 (gq rfl) (gq rfl) (gq rfl) (gq rfl) (gq rfl) (Or.inr ⟨2, rfl, rfl, fun z => z.2.elim n0 (fun z => z.elim n1 n2), rfl⟩)
    · -- not taken
      exact w_throw hX (k := 2) (tx := "no such shape") (by decide) rfl rfl w_671 (by decide) d_A_shape_15 d_A_shape_18 (Or.inl d_A_shape_19) d_A_shape_21 d_A_shape_24 (gq rfl) (gq rfl) (gq rfl) (gq rfl) (gq rfl) (Or.inr ⟨2, rfl, rfl, fun z => by obtain ⟨⟨j, hj, rfl⟩, -⟩ := z; exact h5 (nI_lt hj (by omega)), rfl⟩)
abbrev wayQ (t : QT) (k : QC) (b : QB) : Option Nat := wayA t.2.2 t.2.1 k.1 k.2.1 k.2.2 b.2.2.2 t.1 (liv t)
abbrev wcQ (t : QT) (k : QC) (b : QB) : Int32 := wcA t.2.2 t.2.1 k.1 k.2.1 k.2.2 b.2.2.2 t.1 (liv t)
abbrev ansQ (t : QT) (k : QC) (o : QO) : List Nat := ansL t.2.2 t.2.1 k.1 k.2.1 k.2.2 t.1 o.1 o.2.1
abbrev polQ (t : QT) (k : QC) (p : QP) (b : QB) : QP := (p.1, tchL p.1 (askT t.2.2 t.2.1 k.1 k.2.1 k.2.2 t.1 (liv t) (wayQ t k b)) (p.2.1, p.2.2.1, p.2.2.2.1, 0, 0))
theorem a_ask (h : cls X a c t k o l p d b r) (ok : okQ n t k o l p d b r) : GW X a m_A_ask 7 160 0 0 0 (lv_args 0 [.ref (a 0)]) [] c (pI (fun v w => v = nI (ansQ t k o).length ∧ cls X a w t k o (wayQ t k b, wcQ t k b) (polQ t k p b) (ntQ d k) b (ansQ t k o) ∧ sameA c w)) := by
  obtain ⟨hp, g0, hW, hG⟩ := h.W
  have hi := ok.1
  have hrt := liv_le t hi
  have d1 := ok.2.2.2.2.2.1.1
  refine w_aload_n d_A_ask_0 rfl ?_
  refine w_vV [] c_A_139 d_A_ask_1 rfl h.A (by decide) (a_take h.A hi hrt h.T h.V h.H h.C h.S hW hG h.B h.s) (fun w hw => ?_) rfl rfl (gq rfl) (gq rfl) (gq rfl) (gq rfl) (gq rfl) (gq rfl)
  obtain ⟨w1, w2, w3, hs⟩ := hw
  have h1 : cls X a w t k o (wayQ t k b, wcQ t k b) p d b r := h.part hs (Or.inr w1) (Or.inl ⟨by decide, by decide, by decide, rfl⟩) (Or.inl ⟨by decide, by decide, by decide, by decide, rfl⟩) (Or.inr w2) (Or.inr w3) (Or.inl ⟨by decide, by decide, by decide, rfl⟩) (Or.inl ⟨by simp; omega, rfl⟩) (by decide) (Or.inl ⟨by decide, by decide, rfl⟩) (Or.inl ⟨by decide, by decide, rfl⟩)
  refine w_aload_n d_A_ask_4 rfl ?_
  refine w_vV [] c_A_142 d_A_ask_5 rfl h1.A (by decide) (a_touchPages (fun i hi => wyGo_lt hi) h1.A hi hrt h1.T h1.V h1.H h1.C h1.S ok.2.2.2.2.1.2.1 h1.P ok.2.2.2.2.1.2.2.1) (fun w hw => ?_) rfl rfl (gq rfl) (gq rfl) (gq rfl) (gq rfl) (gq rfl) (gq rfl)
  obtain ⟨q1, q2, hs1⟩ := hw
  rename_i w0
  have h2 : cls X a w t k o (wayQ t k b, wcQ t k b) (polQ t k p b) d b r := h1.part hs1 (Or.inl ⟨by decide, rfl, rfl⟩) (Or.inl ⟨by decide, by decide, by decide, rfl⟩) (Or.inl ⟨by decide, by decide, by decide, by decide, rfl⟩) (Or.inr q2) (Or.inl ⟨by decide, by decide⟩) (Or.inr q1) (Or.inl ⟨by simp; omega, rfl⟩) (by decide) (Or.inl ⟨by decide, by decide, rfl⟩) (Or.inl ⟨by decide, by decide, rfl⟩)
  obtain ⟨fr0, f1, f2⟩ := h2.fr
  refine w_aload_n d_A_ask_8 rfl ?_
  refine w_vV [] c_A_145 d_A_ask_9 rfl h2.A (by decide) (a_findAnswer h2.A ok.2.2.1.1 ok.2.2.1.2.1 hi h2.T h2.V h2.H h2.C h2.R f1) (fun w hw => ?_) rfl rfl (gq rfl) (gq rfl) (gq rfl) (gq rfl) (gq rfl) (gq rfl)
  obtain ⟨u1, u2, hs2⟩ := hw
  rename_i w1'
  have h3 : cls X a w t k o (wayQ t k b, wcQ t k b) (polQ t k p b) d b (ansQ t k o) := h2.part hs2 (Or.inl ⟨by decide, rfl, rfl⟩) (Or.inl ⟨by decide, by decide, by decide, rfl⟩) (Or.inl ⟨by decide, by decide, by decide, by decide, rfl⟩) (Or.inl ⟨by decide, by decide, by decide⟩) (Or.inl ⟨by decide, by decide⟩) (Or.inl ⟨by decide, by decide, by decide, rfl⟩) (Or.inl ⟨by simp; omega, rfl⟩) (by decide) (Or.inl ⟨by decide, by decide, rfl⟩) (Or.inr ⟨u1, u2⟩)
  have hsA : sameA c w := sameA_t (sameA_t (sameA_of hs (by simp)) (sameA_of hs1 (by simp))) (sameA_of hs2 (by simp))
  obtain ⟨pm, D, hL, l2, l3⟩ := h3.D
  have hpl : plc (fun i => kc (D (pm i)).1) (kc k.1) d.1 = plQ d k := plc_cong (fun i hi => kc_c (fun j hj => ((l2 i hi).1 j hj).1.symm))
  refine w_aload_n d_A_ask_12 rfl ?_
  refine w_getf g_A_51 d_A_ask_13 h3.A rfl (by decide) ?_
  refine w_aload_n d_A_ask_16 rfl ?_
  refine w_getf g_A_19 d_A_ask_17 h3.A rfl (by decide) ?_
  refine w_vV [_] c_A_148 d_A_ask_20 rfl hL.1 (by decide) (d_noteQuery hL d1 h3.C) (fun w hw => ?_) rfl rfl (gq rfl) (gq rfl) (gq rfl) (gq rfl) (gq rfl) (gq rfl)
  rw [hpl] at hw
  rename_i w2'
  have h4 : cls X a w t k o (wayQ t k b, wcQ t k b) (polQ t k p b) (ntQ d k) b (ansQ t k o) ∧ sameA w2' w := by
    rcases Classical.em (plQ d k = 8) with e8 | e8
    · have := hw.1 e8
      subst this
      unfold ntQ
      rw [if_pos e8]
      exact ⟨h3, sameA_rf⟩
    · obtain ⟨⟨K', F', T', e1, e2⟩, hs3⟩ := hw.2 e8
      have hl := note_led hL.2.2.1 ok.2.1 d1 l2 l3 e8 e1 e2
      exact ⟨h3.part (L := List.range' 16 58) (fun q hq => hs3 q (by have := nr hq; omega)) (Or.inl ⟨by decide, rfl, rfl⟩) (Or.inl ⟨by decide, by decide, by decide, rfl⟩) (Or.inl ⟨by decide, by decide, by decide, by decide, rfl⟩) (Or.inl ⟨by decide, by decide, by decide⟩) (Or.inl ⟨by decide, by decide⟩) (Or.inl ⟨by decide, by decide, by decide, rfl⟩) (Or.inr hl) (by decide) (Or.inl ⟨by decide, by decide, rfl⟩) (Or.inl ⟨by decide, by decide, rfl⟩), sameA_r hs3 (by omega)⟩
  refine w_aload_n d_A_ask_23 rfl ?_
  refine w_getf g_A_74 d_A_ask_24 h4.1.A rfl (by decide) ?_
  refine w_getf g_A_152 d_A_ask_27 h4.1.R rfl (by decide) ?_
  exact w_iret d_A_ask_30 rfl (⟨_, rfl, rfl, h4.1, sameA_t hsA h4.2⟩)
end PD
