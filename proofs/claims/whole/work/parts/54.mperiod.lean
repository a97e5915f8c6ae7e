/-! The model: period, shape -/
abbrev cS (d : QD) (i : Nat) : QC := ((d.2.2 i).1, (d.2.2 i).2.1, (d.2.2 i).2.2.1)
abbrev wS (d : QD) : Nat → Nat := fun i => (d.2.2 i).2.2.2
def perC (KK FF TT WW : Nat → Int32) (k : QC) (d : QD) (j : Nat) (L : List Nat) : Prop :=
  mcA KK FF TT 0 k ∧ (∀ i, i < L.length → mcA KK FF TT (i + 1) (cS d (L.getD i 0)) ∧ WW i = nI (wS d (L.getD i 0) * 3 / 4)) ∧ ∀ i, j ≤ i → i < d.1 → mcA KK FF TT (i + 1) (cS d i) ∧ WW i = nI (wS d i)
theorem getD_app {l : List Nat} {x i : Nat} (h : i < l.length) : (l ++ [x]).getD i 0 = l.getD i 0 := by simp [List.getD_eq_getElem?_getD, List.getElem?_append_left h]
theorem getD_lst {l : List Nat} {x : Nat} : (l ++ [x]).getD l.length 0 = x := by simp [List.getD_eq_getElem?_getD]
theorem perC_yes {KK FF TT WW : Nat → Int32} {k : QC} {d : QD} {j : Nat} {L : List Nat} (h : perC KK FF TT WW k d j L) (hL : L.length ≤ j) (hj : j < d.1) : perC (cpy KK (L.length + 1) (j + 1) 3) (cpy FF (L.length + 1) (j + 1) 3) (cpy TT (L.length + 1) (j + 1) 3) (upd WW L.length (nI (wS d j * 3 / 4))) k d (j + 1) (L ++ [j]) := by
  obtain ⟨h1, h2, h3⟩ := h
  refine ⟨mcA_off (by omega) h1, fun i hi => ?_, fun i hi1 hi2 => ?_⟩
  · rw [List.length_append] at hi
    by_cases e : i = L.length
    · subst e
      rw [getD_lst, pk_us]
      exact ⟨mcA_cpy (h3 j (Nat.le_refl _) hj).1, rfl⟩
    · have hi' : i < L.length := by simp at hi; omega
      rw [getD_app hi', pk_un e]
      exact ⟨mcA_off (by omega) (h2 i hi').1, (h2 i hi').2⟩
  · rw [pk_un (by omega)]
    exact ⟨mcA_off (by omega) (h3 i (by omega) hi2).1, (h3 i (by omega) hi2).2⟩
section MPE
variable {X : gX} {a : Nat → Nat} {m : QM} {t : QT} {k : QC} {o : QO} {l : QL} {p : QP} {d : QD} {b : QB} {n q : Nat} {r : List Nat} {th : Int32} {an : Nat}
theorem m_peGo {ch' : Nat} (hd : d.1 ≤ 8) (hw : ∀ i, i < d.1 → wS d i < 10000) {c0 : Nat → va_E} : ∀ (e j : Nat) (c : Nat → va_E) (KK FF TT WW : Nat → Int32), j + e = d.1 → same c0 c [79, 85, 86, 87, 88] → c 79 = oM a m t o l p (d.1, ch', d.2.2) b an → c 85 = aI X 27 KK → c 86 = aI X 27 FF → c 87 = aI X 27 TT → c 88 = aI X 8 WW → perC KK FF TT WW k d j (svL (wS d) j) →
    GW X a m_M_period 1 23 0 0 21 [(0, .ref (a 79)), (1, .int (nI (svL (wS d) j).length)), (2, .int (nI j))] [] c (pI (fun v w => v = nI (svL (wS d) d.1).length ∧ w 79 = oM a m t o l p ((svL (wS d) d.1).length, ch', d.2.2) b an ∧ (∃ KK FF TT WW, w 85 = aI X 27 KK ∧ w 86 = aI X 27 FF ∧ w 87 = aI X 27 TT ∧ w 88 = aI X 8 WW ∧ perC KK FF TT WW k d d.1 (svL (wS d) d.1)) ∧ same c0 w [79, 85, 86, 87, 88])) := by
  intro e
  induction e with
  | zero =>
    intro j c KK FF TT WW hj hs hM h1 h2 h3 h4 hp
    have hj' : j = d.1 := by omega
    subst hj'
    refine w_iload_n d_M_period_21 rfl ?_
    refine w_aload_n d_M_period_22 rfl ?_
    refine w_getf g_M_187 d_M_period_23 hM rfl (by decide) ?_
    refine w_icmp_ge 70 d_M_period_26 (by decide) (fun _ => ?_) (fun hn => absurd ((Int32.le_refl _)) hn)
    refine w_aload_n d_M_period_70 rfl ?_
    refine w_iload_n d_M_period_71 rfl ?_
    refine w_putf p_M_187 d_M_period_72 hM rfl rfl (gqL rfl) (by decide) ?_
    refine w_aload_n d_M_period_75 rfl ?_
    refine w_getf g_M_187 d_M_period_76 va_s rfl (by decide) ?_
    exact w_iret d_M_period_79 rfl (⟨_, rfl, rfl, rfl, ⟨KK, FF, TT, WW, va_n (by decide) h1, va_n (by decide) h2, va_n (by decide) h3, va_n (by decide) h4, hp⟩, same_trans hs (same_up (by simp))⟩)
  | succ e ih =>
    intro j c KK FF TT WW hj hs hM h1 h2 h3 h4 hp
    have hjd : j < d.1 := by omega
    have hL := svL_len (wS d) j
    have hwj := hw j hjd
    have hWj := (hp.2.2 j (Nat.le_refl _) hjd).2
    have e1 : nI (3 * wS d j) / 4 = nI (wS d j * 3 / 4) := by rw [show (4 : Int32) = nI 4 from rfl, pk_div (by omega) (by decide) (by decide), Nat.mul_comm]
    have hsv := svL_s (w0 := wS d) (k := j)
    refine w_iload_n d_M_period_21 rfl ?_
    refine w_aload_n d_M_period_22 rfl ?_
    refine w_getf g_M_187 d_M_period_23 hM rfl (by decide) ?_
    refine w_icmp_ge 70 d_M_period_26 (by decide) (fun hn => absurd hn (fun z => absurd ((nI_leI (by show d.1 < 2 ^ 31; omega) (by omega)).mp z) (by show ¬ d.1 ≤ j; omega))) (fun _ => ?_)
    refine w_iconst 3 d_M_period_29 (by decide) ?_
    refine w_aload_n d_M_period_30 rfl ?_
    refine w_getf g_M_45 d_M_period_31 hM rfl (by decide) ?_
    refine w_iload_n d_M_period_34 rfl ?_
    refine w_iald d_M_period_35 h4 rfl (show j < 8 by omega) (by decide) (by decide) ?_
    rw [hWj]
    refine w_imul d_M_period_36 ?_
    rw [m3]
    refine w_iconst 4 d_M_period_37 (by decide) ?_
    refine w_idiv d_M_period_38 (by decide) ?_
    rw [e1]
    refine w_istore_n d_M_period_39 (by decide) ?_
    refine w_iload_n d_M_period_40 rfl ?_
    refine w_if_le 64 d_M_period_41 (by decide) (fun h0 => ?_) (fun h0 => ?_)
    · -- taken
      have h0' : ¬ 0 < wS d j * 3 / 4 := fun z => nI_nle z (by omega) h0
      rw [if_neg h0'] at hsv
      have kk := ih (j + 1) c KK FF TT WW (by omega) hs hM h1 h2 h3 h4 (by rw [hsv]; exact ⟨hp.1, hp.2.1, fun i q1 q2 => hp.2.2 i (by omega) q2⟩)
      rw [hsv] at kk
      first | refine w_iinc _ d_M_period_64 rfl (nIinc _) (by decide) ?_ | refine w_iinc _ d_M_period_64 rfl rfl (by decide) ?_
      refine w_goto 21 d_M_period_67 (by decide) ?_
      exact w_sel [0, 1, 2] rfl kk
    · -- not taken
      have h0' : 0 < wS d j * 3 / 4 := by rcases Nat.eq_zero_or_pos (wS d j * 3 / 4) with z | z; exact absurd (by rw [z]; decide) h0; exact z
      rw [if_pos h0'] at hsv
      refine w_aload_n d_M_period_44 rfl ?_
      refine w_iload_n d_M_period_45 rfl ?_
      refine w_iconst 1 d_M_period_46 (by decide) ?_
      refine w_iadd d_M_period_47 ?_
      rw [nI_1]
      refine w_iload_n d_M_period_48 rfl ?_
      refine w_iconst 1 d_M_period_49 (by decide) ?_
      refine w_iadd d_M_period_50 ?_
      rw [nI_1]
      refine w_vV [_, _] c_M_193 d_M_period_51 rfl hM (by decide) (m_copy (to := (svL (wS d) j).length + 1) (fr := j + 1) (by omega) (by omega) hM h1 h2 h3) (fun w hw => ?_) rfl rfl (gq rfl) (gq rfl) (gq rfl) (gq rfl) (gq rfl) (gq rfl)
      obtain ⟨q1, q2, q3, q4⟩ := hw
      have hM1 : w 79 = oM a m t o l p (d.1, ch', d.2.2) b an := (q4 79 (by decide)).trans hM
      refine w_aload_n d_M_period_54 rfl ?_
      refine w_getf g_M_45 d_M_period_55 hM1 rfl (by decide) ?_
      refine w_iload_n d_M_period_58 rfl ?_
      refine w_iload_n d_M_period_59 rfl ?_
      refine w_iast d_M_period_60 ((q4 88 (by decide)).trans h4) rfl (show (svL (wS d) j).length < 8 by omega) (by decide) (by decide) ?_
      have kk := ih (j + 1) _ _ _ _ _ (by omega) (same_trans (same_trans hs (same_sub q4 (by simp))) (same_up (q := 88) (e := aI X 8 (upd WW (svL (wS d) j).length (nI (wS d j * 3 / 4)))) (by simp))) (va_n (by decide) hM1) (va_n (by decide) q1) (va_n (by decide) q2) (va_n (by decide) q3) va_s (by rw [hsv]; exact perC_yes hp hL hjd)
      rw [hsv, List.length_append, List.length_singleton] at kk
      first | refine w_iinc _ d_M_period_61 rfl (nIinc _) (by decide) ?_ | refine w_iinc _ d_M_period_61 rfl rfl (by decide) ?_
      first | refine w_iinc _ d_M_period_64 rfl (nIinc _) (by decide) ?_ | refine w_iinc _ d_M_period_64 rfl rfl (by decide) ?_
      refine w_goto 21 d_M_period_67 (by decide) ?_
      exact w_sel [0, 1, 2] rfl kk
variable {c : Nat → va_E}
theorem m_period (h : mdl X a c th t k o l p d b r) (ok : okQ n t k o l p d b r) : GW X a m_M_period 1 23 0 0 0 (lv_args 0 [.ref (a 79)]) [] c (pI (fun v w => v = nI (fdQ d).1 ∧ mdl X a w 0 t k o l p (fdQ d) b r ∧ sameM c w)) := by
  obtain ⟨sc, hM⟩ := h.M
  obtain ⟨d1, d2, d3⟩ := ok.2.2.2.2.2.1
  have hn := ok.2.2.2.2.2.2.2.2
  obtain ⟨KK, FF, TT, h1, h2, h3, h4⟩ := h.C
  obtain ⟨WW, w1, w2⟩ := h.W
  have e1 : nI (3 * d.2.1) / 4 = nI (d.2.1 * 3 / 4) := by rw [show (4 : Int32) = nI 4 from rfl, pk_div (by omega) (by decide) (by decide), Nat.mul_comm]
  refine w_aload_n d_M_period_0 rfl ?_
  refine w_iconst 0 d_M_period_1 (by decide) ?_
  refine w_putf p_M_72 d_M_period_2 hM rfl rfl (gqL rfl) (by decide) ?_
  refine w_aload_n d_M_period_5 rfl ?_
  refine w_iconst 3 d_M_period_6 (by decide) ?_
  refine w_aload_n d_M_period_7 rfl ?_
  refine w_getf g_M_78 d_M_period_8 va_s rfl (by decide) ?_
  refine w_imul d_M_period_11 ?_
  rw [m3]
  refine w_iconst 4 d_M_period_12 (by decide) ?_
  refine w_idiv d_M_period_13 (by decide) ?_
  rw [e1]
  refine w_putf p_M_78 d_M_period_14 va_s rfl rfl (gqL rfl) (by decide) ?_
  refine w_iconst 0 d_M_period_17 (by decide) ?_
  refine w_istore_n d_M_period_18 (by decide) ?_
  refine w_iconst 0 d_M_period_19 (by decide) ?_
  refine w_istore_n d_M_period_20 (by decide) ?_
  refine w_post (fun r' w hw => ?_) (m_peGo (c0 := c) (k := k) (m := (0, sc)) (t := t) (o := o) (l := l) (p := p) (d := d) (b := b) (an := r.length) (ch' := d.2.1 * 3 / 4) d1 (fun i hi => by have := (d3 i hi).1; show (d.2.2 i).2.2.2 < 10000; omega) d.1 0 _ KK FF TT WW (by omega) (same_trans (same_up (by simp)) (same_up (by simp))) rfl h1 h2 h3 w1 ⟨h4 0 (Nat.zero_le _), fun i hi => absurd hi (by simp [svL]), fun i _ hi => ⟨h4 (i + 1) (by omega), w2 i hi⟩⟩)
  obtain ⟨v, q0, q1, q2, ⟨K2, F2, T2, W2, r1, r2, r3, r4, r5⟩, q3⟩ := hw
  refine ⟨v, q0, q1, h.part q3 ⟨sc, q2⟩ (Or.inl ⟨by decide, rfl⟩) (Or.inl ⟨by decide, rfl⟩) ⟨by decide, by decide⟩ (Or.inl ⟨by decide, rfl⟩) (Or.inr ⟨K2, F2, T2, r1, r2, r3, fun q hq => ?_⟩) (Or.inr ⟨W2, r4, fun i hi => (r5.2.1 i hi).2⟩) (Or.inl ⟨by decide, by decide, rfl, rfl, rfl⟩) (Or.inl ⟨by decide, rfl⟩) (Or.inl ⟨by decide, by decide⟩), sameM_of q3 (by simp)⟩
  cases q with
  | zero => exact r5.1
  | succ q => exact (r5.2.1 q (Nat.lt_of_succ_le hq)).1
abbrev shpM (X : gX) (a : Nat → Nat) (c : Nat → va_E) (t : QT) (k : QC) (o : QO) (l : QL) (p : QP) (d : QD) (b : QB) (r : List Nat) (x y : Int32) : gO → (Nat → va_E) → Prop := pI (fun v w => ((∃ j, (j < d.1 ∧ x = nI j) ∧ ((y = 0 ∧ v = nI (d.2.2 j).2.2.2) ∨ (y = 1 ∧ v = kc (d.2.2 j).1) ∨ (y = 2 ∧ v = lsS t.2.2 t.2.1 t.1 (liv t) (rdyN b.2.2.2 9) (d.2.2 j))) ∧ mdl X a w 0 t k o l p d b r) ∨ (¬ ((∃ j, j < d.1 ∧ x = nI j) ∧ (y = 0 ∨ y = 1 ∨ y = 2)) ∧ mdl X a w 1 t k o l p d b r)) ∧ sameM c w)
theorem m_sh22 (h : mdl X a c th t k o l p d b r) {x y : Int32} (hn : ¬ ((∃ j, j < d.1 ∧ x = nI j) ∧ (y = 0 ∨ y = 1 ∨ y = 2))) : GW X a m_M_shape 6 143 0 0 22 [(0, .ref (a 79)), (1, .int x), (2, .int y)] [.ref (a 79)] c (shpM X a c t k o l p d b r x y) := by
  obtain ⟨sc, hM⟩ := h.M
  refine w_iconst 1 d_M_shape_22 (by decide) ?_
  refine w_goto 27 d_M_shape_23 (by decide) ?_
  refine w_putf p_M_72 d_M_shape_27 hM rfl rfl (gqL rfl) (by decide) ?_
  refine w_aload_n d_M_shape_30 rfl ?_
  refine w_getf g_M_72 d_M_shape_31 va_s rfl (by decide) ?_
  refine w_if_le 39 d_M_shape_34 (by decide) (fun hn => absurd hn ((by decide))) (fun _ => ?_)
  refine w_iconst 0 d_M_shape_37 (by decide) ?_
  exact w_iret d_M_shape_38 rfl (⟨_, rfl, Or.inr ⟨hn, h.thr1⟩, sameM_up (by decide) (by decide)⟩)
theorem kc_m (x y z : Int32) : x + 3 * y + 9 * z = ((0 * 3 + z) * 3 + y) * 3 + x := by
  rw [Int32.zero_mul, Int32.zero_add, Int32.add_mul, Int32.mul_assoc, show (3 : Int32) * 3 = 9 from rfl, Int32.mul_comm 3 y, Int32.mul_comm 9 z, Int32.add_comm (x + y * 3), Int32.add_comm x, ← Int32.add_assoc]
theorem m_shape (h : mdl X a c th t k o l p d b r) (ok : okQ n t k o l p d b r) {x y : Int32} : GW X a m_M_shape 6 143 0 0 0 (lv_args 0 [.ref (a 79), .int x, .int y]) [] c (shpM X a c t k o l p d b r x y) := by
  obtain ⟨sc, hM⟩ := h.M
  have ht := ok.1
  obtain ⟨d1, d2, d3⟩ := ok.2.2.2.2.2.1
  have hm := h.thr1 (th' := 0) (sc := sc)
  obtain ⟨⟨fr, hE⟩, -⟩ := hm.E
  obtain ⟨KK, FF, TT, c1, c2, c3, c4⟩ := hm.C
  obtain ⟨WW, w1, w2⟩ := hm.W
  refine w_aload_n d_M_shape_0 rfl ?_
  refine w_iload_n d_M_shape_1 rfl ?_
  refine w_if_lt 22 d_M_shape_2 (by decide) (fun h1 => ?_) (fun h1 => ?_)
  · -- taken
    exact m_sh22 h (fun z => by obtain ⟨⟨j, hj, rfl⟩, -⟩ := z; exact nI_n0 (by omega) h1)
  · -- not taken
    refine w_iload_n d_M_shape_5 rfl ?_
    refine w_aload_n d_M_shape_6 rfl ?_
    refine w_getf g_M_187 d_M_shape_7 hM rfl (by decide) ?_
    refine w_icmp_ge 22 d_M_shape_10 (by decide) (fun h2 => ?_) (fun h2 => ?_)
    · -- taken
      exact m_sh22 h (fun z => by obtain ⟨⟨j, hj, rfl⟩, -⟩ := z; exact lt_nle (nI_lt hj (by omega)) h2)
    · -- not taken
      obtain ⟨j, hj, rfl⟩ := nn_lt h1 (nle_lt h2) (by omega)
      refine w_iload_n d_M_shape_13 rfl ?_
      refine w_if_lt 22 d_M_shape_14 (by decide) (fun h3 => ?_) (fun h3 => ?_)
      · -- taken
        exact m_sh22 h (fun z => by rcases z.2 with rfl | rfl | rfl <;> exact absurd h3 (by decide))
      · -- not taken
        refine w_iload_n d_M_shape_17 rfl ?_
        refine w_iconst 2 d_M_shape_18 (by decide) ?_
        refine w_icmp_le 26 d_M_shape_19 (by decide) (fun h4 => ?_) (fun h4 => ?_)
        · -- taken
          obtain ⟨i, hi, rfl⟩ := nn_le (n := 2) h3 h4 (by decide)
          have hi3 : i = 0 ∨ i = 1 ∨ i = 2 := by omega
          have hQ : mq X (va_up c 79 (oM a (0, sc) t o l p d b r.length)) t (j + 1) (cS d j) := hm.q (q := j + 1) (by omega)
          have cj := c4 (j + 1) (by omega)
          rw [cdQ_s] at cj
          refine w_iconst 0 d_M_shape_26 (by decide) ?_
          refine w_putf p_M_72 d_M_shape_27 hM rfl rfl (gqL rfl) (by decide) ?_
          refine w_aload_n d_M_shape_30 rfl ?_
          refine w_getf g_M_72 d_M_shape_31 va_s rfl (by decide) ?_
          refine w_if_le 39 d_M_shape_34 (by decide) (fun _ => ?_) (fun hn => absurd ((by decide)) hn)
          refine w_iload_n d_M_shape_39 rfl ?_
          refine w_iconst 1 d_M_shape_40 (by decide) ?_
          refine w_iadd d_M_shape_41 ?_
          rw [nI_1]
          refine w_istore_n d_M_shape_42 (by decide) ?_
          rcases hi3 with rfl | rfl | rfl
          · -- case
            refine w_iload_n d_M_shape_43 rfl ?_
            refine w_if_ne 54 d_M_shape_44 (by decide) (fun hn => absurd (rfl) hn) (fun _ => ?_)
            refine w_aload_n d_M_shape_47 rfl ?_
            refine w_getf g_M_45 d_M_shape_48 va_s rfl (by decide) ?_
            refine w_iload_n d_M_shape_51 rfl ?_
            refine w_iald d_M_shape_52 w1 rfl (show j < 8 by omega) (by decide) (by decide) ?_
            exact w_iret d_M_shape_53 rfl (⟨_, rfl, Or.inl ⟨j, ⟨hj, rfl⟩, Or.inl ⟨rfl, w2 j hj⟩, hm⟩, sameM_up (by decide) (by decide)⟩)
          · -- case
            refine w_iload_n d_M_shape_43 rfl ?_
            refine w_if_ne 54 d_M_shape_44 (by decide) (fun _ => ?_) (fun hn => absurd hn ((by decide)))
            refine w_iload_n d_M_shape_54 rfl ?_
            refine w_iconst 1 d_M_shape_55 (by decide) ?_
            refine w_icmp_ne 97 d_M_shape_56 (by decide) (fun hn => absurd (rfl) hn) (fun _ => ?_)
            refine w_aload_n d_M_shape_59 rfl ?_
            refine w_getf g_M_30 d_M_shape_60 va_s rfl (by decide) ?_
            refine w_iconst 3 d_M_shape_63 (by decide) ?_
            refine w_iload_n d_M_shape_64 rfl ?_
            refine w_imul d_M_shape_65 ?_
            rw [m3]
            refine w_iald d_M_shape_66 c1 rfl (show 3 * (j + 1) < 27 by omega) (by decide) (by decide) ?_
            refine w_iconst 3 d_M_shape_67 (by decide) ?_
            refine w_aload_n d_M_shape_68 rfl ?_
            refine w_getf g_M_30 d_M_shape_69 va_s rfl (by decide) ?_
            refine w_iconst 3 d_M_shape_72 (by decide) ?_
            refine w_iload_n d_M_shape_73 rfl ?_
            refine w_imul d_M_shape_74 ?_
            refine w_iconst 1 d_M_shape_75 (by decide) ?_
            refine w_iadd d_M_shape_76 ?_
            rw [m3, nI_1]
            refine w_iald d_M_shape_77 c1 rfl (show 3 * (j + 1) + 1 < 27 by omega) (by decide) (by decide) ?_
            refine w_imul d_M_shape_78 ?_
            refine w_iadd d_M_shape_79 ?_
            refine w_bipush 9 d_M_shape_80 (by decide) ?_
            refine w_aload_n d_M_shape_82 rfl ?_
            refine w_getf g_M_30 d_M_shape_83 va_s rfl (by decide) ?_
            refine w_iconst 3 d_M_shape_86 (by decide) ?_
            refine w_iload_n d_M_shape_87 rfl ?_
            refine w_imul d_M_shape_88 ?_
            refine w_iconst 2 d_M_shape_89 (by decide) ?_
            refine w_iadd d_M_shape_90 ?_
            rw [m3, show (2 : Int32) = nI 2 from rfl, nI_add]
            refine w_iald d_M_shape_91 c1 rfl (show 3 * (j + 1) + 2 < 27 by omega) (by decide) (by decide) ?_
            refine w_imul d_M_shape_92 ?_
            refine w_iadd d_M_shape_93 ?_
            refine w_goto 108 d_M_shape_94 (by decide) ?_
            rw [show KK (3 * (j + 1)) = (d.2.2 j).1 0 from (cj 0 (by decide)).1, show KK (3 * (j + 1) + 1) = (d.2.2 j).1 1 from (cj 1 (by decide)).1, show KK (3 * (j + 1) + 2) = (d.2.2 j).1 2 from (cj 2 (by decide)).1]
            exact w_iret d_M_shape_108 rfl (⟨_, rfl, Or.inl ⟨j, ⟨hj, rfl⟩, Or.inr (Or.inl ⟨rfl, kc_m _ _ _⟩), hm⟩, sameM_up (by decide) (by decide)⟩)
          · -- case
            refine w_iload_n d_M_shape_43 rfl ?_
            refine w_if_ne 54 d_M_shape_44 (by decide) (fun _ => ?_) (fun hn => absurd hn ((by decide)))
            refine w_iload_n d_M_shape_54 rfl ?_
            refine w_iconst 1 d_M_shape_55 (by decide) ?_
            refine w_icmp_ne 97 d_M_shape_56 (by decide) (fun _ => ?_) (fun hn => absurd hn ((by decide)))
            refine w_aload_n d_M_shape_97 rfl ?_
            refine w_iload_n d_M_shape_98 rfl ?_
            refine w_aload_n d_M_shape_99 rfl ?_
            refine w_iload_n d_M_shape_100 rfl ?_
            refine w_iconst (-1) d_M_shape_101 (by decide) ?_
            refine w_vI [_, _] c_M_196 d_M_shape_102 rfl va_s (by decide) (m_wayOf (k := cS d j) (q := j + 1) (m := (0, sc)) (t := t) (o := o) (l := l) (p := p) (d := d) (b := b) (an := r.length) va_s hQ hE hm.s (d3 j hj).2 (by omega) ht) (fun x w hw => ?_) rfl rfl (gq rfl) (gq rfl) (gq rfl) (gq rfl) (gq rfl) (gq rfl)
            obtain ⟨rfl, ⟨sc1, u1⟩, ⟨fr1, u2⟩, u3⟩ := hw
            refine w_vI [_, _] c_M_199 d_M_shape_105 rfl u1 (by decide) (m_costOfWay (k := cS d j) (q := j + 1) (y := wgQ t (cS d j) b.2.2.2 9) u1 (hQ.keep u3 (by simp)) u2 (d3 j hj).2 (by omega) ht (fun i hi => ⟨wyGo_lt hi, wg_way hi⟩)) (fun x w hw => ?_) rfl rfl (gq rfl) (gq rfl) (gq rfl) (gq rfl) (gq rfl) (gq rfl)
            obtain ⟨rfl, hs⟩ := hw
            have h5 := hm.scr (m := (0, sc)) ⟨⟨sc1, u1⟩, ⟨fr1, u2⟩, u3⟩
            exact w_iret d_M_shape_108 rfl (⟨_, rfl, Or.inl ⟨j, ⟨hj, rfl⟩, Or.inr (Or.inr ⟨rfl, rfl⟩), h5.scr hs⟩, sameM_t (sameM_t (sameM_up (by decide) (by decide)) (sameM_of u3 (by simp))) (sameM_s hs)⟩)
        · -- not taken
          exact m_sh22 h (fun z => by rcases z.2 with rfl | rfl | rfl <;> exact absurd h4 (by decide))
end MPE
