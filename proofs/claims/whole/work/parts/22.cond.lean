/-! Conditions; Table.add, remove, firstEntry -/
def fitB (K F T : Nat → Int32) (j : Nat) (x : Int32) : Bool := decide (K j = 0) || (decide (F j ≤ x) && decide (x ≤ T j))
def fitR (K F T v : Nat → Int32) (r : Nat) : Bool := fitB K F T 0 (v (3 * r)) && (fitB K F T 1 (v (3 * r + 1)) && fitB K F T 2 (v (3 * r + 2)))
def toK (K F T : Nat → Int32) (j : Nat) : Int32 := if K j = 1 then F j else T j
def kc (K : Nat → Int32) : Int32 := ((0 * 3 + K 2) * 3 + K 1) * 3 + K 0
theorem same_trans {c d w : Nat → va_E} {l : List Nat} (h1 : same c d l) (h2 : same d w l) : same c w l := fun k hk => (h2 k hk).trans (h1 k hk)
theorem same_up {c : Nat → va_E} {q : Nat} {e : va_E} {l : List Nat} (h : q ∈ l) : same c (va_up c q e) l := fun k hk => va_n (fun z => hk (z ▸ h)) rfl
theorem same_sub {c w : Nat → va_E} {l l' : List Nat} (h : same c w l) (hs : ∀ x ∈ l, x ∈ l') : same c w l' := fun k hk => h k (fun z => hk (hs k z))
theorem same_rf {c : Nat → va_E} {l : List Nat} : same c c l := fun _ _ => rfl
theorem bI_n {b : Bool} : ¬ bI b = 0 ↔ b = true := by cases b <;> decide
theorem lt3 {j : Nat} (h : j < 3) : j = 0 ∨ j = 1 ∨ j = 2 := by omega
section CN
variable {X : gX} {a : Nat → Nat} {c : Nat → va_E} {ins rt : Nat} {v h : Nat → Int32} {K F T : Nat → Int32} {q : Nat}
theorem c_binds {j : Nat} (hC : cnd X a c q K F T) (hq : q < 90) (hj : j < 3) : GW X a m_C_binds 0 0 0 0 0 (lv_args 0 [.ref (a q), .int (nI j)]) [] c (pI (eI (bI (decide (¬ K j = 0))) c)) := by
  obtain ⟨h1, h2, h3, h4⟩ := hC
  refine w_aload_n d_C_binds_0 rfl ?_
  refine w_getf g_C_9 d_C_binds_1 h1 rfl (by omega) ?_
  refine w_iload_n d_C_binds_4 rfl ?_
  refine w_iald d_C_binds_5 h2 rfl hj (by decide) (by omega) ?_
  refine w_if_eq 13 d_C_binds_6 (by decide) (fun hz => ?_) (fun hz => ?_)
  · -- taken
    refine w_iconst 0 d_C_binds_13 (by decide) ?_
    exact w_zret (by first | exact Or.inl rfl | exact Or.inr rfl) d_C_binds_14 rfl (⟨_, rfl, by rw [bI, decide_eq_false (fun z => z hz)]; rfl, rfl⟩)
  · -- not taken
    refine w_iconst 1 d_C_binds_9 (by decide) ?_
    refine w_goto 14 d_C_binds_10 (by decide) ?_
    exact w_zret (by first | exact Or.inl rfl | exact Or.inr rfl) d_C_binds_14 rfl (⟨_, rfl, by rw [bI, decide_eq_true hz]; rfl, rfl⟩)
theorem c_fit {j : Nat} {x : Int32} (hC : cnd X a c q K F T) (hq : q < 90) (hj : j < 3) : GW X a m_C_fit 0 0 0 0 0 (lv_args 0 [.ref (a q), .int (nI j), .int x]) [] c (pI (eI (bI (fitB K F T j x)) c)) := by
  obtain ⟨h1, h2, h3, h4⟩ := hC
  refine w_aload_n d_C_fit_0 rfl ?_
  refine w_getf g_C_9 d_C_fit_1 h1 rfl (by omega) ?_
  refine w_iload_n d_C_fit_4 rfl ?_
  refine w_iald d_C_fit_5 h2 rfl hj (by decide) (by omega) ?_
  refine w_if_eq 29 d_C_fit_6 (by decide) (fun hz => ?_) (fun hz => ?_)
  · -- taken
    refine w_iconst 1 d_C_fit_29 (by decide) ?_
    refine w_goto 34 d_C_fit_30 (by decide) ?_
    exact w_zret (by first | exact Or.inl rfl | exact Or.inr rfl) d_C_fit_34 rfl (⟨_, rfl, by rw [bI, fitB, decide_eq_true hz]; rfl, rfl⟩)
  · -- not taken
    refine w_aload_n d_C_fit_9 rfl ?_
    refine w_getf g_C_15 d_C_fit_10 h1 rfl (by omega) ?_
    refine w_iload_n d_C_fit_13 rfl ?_
    refine w_iald d_C_fit_14 h3 rfl hj (by decide) (by omega) ?_
    refine w_iload_n d_C_fit_15 rfl ?_
    refine w_icmp_gt 33 d_C_fit_16 (by decide) (fun h5 => ?_) (fun h5 => ?_)
    · -- taken
      refine w_iconst 0 d_C_fit_33 (by decide) ?_
      exact w_zret (by first | exact Or.inl rfl | exact Or.inr rfl) d_C_fit_34 rfl (⟨_, rfl, by rw [bI, fitB, decide_eq_false hz, decide_eq_false (fun z => absurd h5 (Int32.not_lt.mpr z))]; rfl, rfl⟩)
    · -- not taken
      refine w_iload_n d_C_fit_19 rfl ?_
      refine w_aload_n d_C_fit_20 rfl ?_
      refine w_getf g_C_18 d_C_fit_21 h1 rfl (by omega) ?_
      refine w_iload_n d_C_fit_24 rfl ?_
      refine w_iald d_C_fit_25 h4 rfl hj (by decide) (by omega) ?_
      refine w_icmp_gt 33 d_C_fit_26 (by decide) (fun h6 => ?_) (fun h6 => ?_)
      · -- taken
        refine w_iconst 0 d_C_fit_33 (by decide) ?_
        exact w_zret (by first | exact Or.inl rfl | exact Or.inr rfl) d_C_fit_34 rfl (⟨_, rfl, by rw [bI, fitB, decide_eq_false hz, decide_eq_true (Int32.not_lt.mp h5), decide_eq_false (fun z => absurd h6 (Int32.not_lt.mpr z))]; rfl, rfl⟩)
      · -- not taken
        refine w_iconst 1 d_C_fit_29 (by decide) ?_
        refine w_goto 34 d_C_fit_30 (by decide) ?_
        exact w_zret (by first | exact Or.inl rfl | exact Or.inr rfl) d_C_fit_34 rfl (⟨_, rfl, by rw [bI, fitB, decide_eq_false hz, decide_eq_true (Int32.not_lt.mp h5), decide_eq_true (Int32.not_lt.mp h6)]; rfl, rfl⟩)
theorem c_fitGo {r : Nat} (hC : cnd X a c q K F T) (hq : q < 90) (hT : c 1 = oT a ins rt) (hV : c 2 = aI X 192 v) (hr : r < 64) : ∀ (d j : Nat), j + d = 3 →
    GW X a m_C_fitRow 1 22 0 0 2 [(0, .ref (a q)), (1, .ref (a 1)), (2, .int (nI r)), (3, .int (nI j))] [] c (pI (eI (bI ((List.range d).all (fun i => fitB K F T (j + i) (v (3 * r + (j + i)))))) c)) := by
  intro d
  induction d with
  | zero =>
    intro j hj
    have hj3 : j = 3 := by omega
    subst hj3
    refine w_iload_n d_C_fitRow_2 rfl ?_
    refine w_iconst 3 d_C_fitRow_3 (by decide) ?_
    refine w_icmp_ge 29 d_C_fitRow_4 (by decide) (fun _ => ?_) (fun hn => absurd ((nI_leI (a := 3) (b := 3) (by decide) (by decide)).mpr (by omega)) hn)
    refine w_iconst 1 d_C_fitRow_29 (by decide) ?_
    exact w_zret (by first | exact Or.inl rfl | exact Or.inr rfl) d_C_fitRow_30 rfl (⟨_, rfl, rfl, rfl⟩)
  | succ d ih =>
    intro j hj
    have e : (List.range (d + 1)).all (fun i => fitB K F T (j + i) (v (3 * r + (j + i)))) = (fitB K F T j (v (3 * r + j)) && (List.range d).all (fun i => fitB K F T (j + 1 + i) (v (3 * r + (j + 1 + i))))) := by
      rw [List.range_succ_eq_map, List.all_cons, List.all_map]
      congr 2
      funext i
      simp only [Function.comp, Nat.succ_eq_add_one]
      rw [show j + (i + 1) = j + 1 + i by omega]
    rw [e]
    refine w_iload_n d_C_fitRow_2 rfl ?_
    refine w_iconst 3 d_C_fitRow_3 (by decide) ?_
    refine w_icmp_ge 29 d_C_fitRow_4 (by decide) (fun hn => absurd hn (fun z => absurd ((nI_leI (a := 3) (by decide) (by omega)).mp z) (by omega))) (fun _ => ?_)
    refine w_aload_n d_C_fitRow_7 rfl ?_
    refine w_iload_n d_C_fitRow_8 rfl ?_
    refine w_aload_n d_C_fitRow_9 rfl ?_
    refine w_iload_n d_C_fitRow_10 rfl ?_
    refine w_iload_n d_C_fitRow_11 rfl ?_
    refine w_vI [_, _] c_C_25 d_C_fitRow_12 rfl hT (by decide) (t_at hT hV hr (by omega)) (fun x w hw => ?_) rfl rfl (gq rfl) (gq rfl) (gq rfl) (gq rfl) (gq rfl) (gq rfl)
    obtain ⟨rfl, rfl⟩ := hw
    refine w_vI [_, _] c_C_31 d_C_fitRow_15 rfl hC.1 (by omega) (c_fit hC hq (by omega)) (fun x w hw => ?_) rfl rfl (gq rfl) (gq rfl) (gq rfl) (gq rfl) (gq rfl) (gq rfl)
    obtain ⟨rfl, rfl⟩ := hw
    refine w_if_ne 23 d_C_fitRow_18 (by decide) (fun hz => ?_) (fun hz => ?_)
    · -- taken
      rw [bI_n.mp hz, Bool.true_and]
      first | refine w_iinc _ d_C_fitRow_23 rfl (nIinc _) (by decide) ?_ | refine w_iinc _ d_C_fitRow_23 rfl rfl (by decide) ?_
      refine w_goto 2 d_C_fitRow_26 (by decide) ?_
      exact ih (j + 1) (by omega)
    · -- not taken
      refine w_iconst 0 d_C_fitRow_21 (by decide) ?_
      exact w_zret (by first | exact Or.inl rfl | exact Or.inr rfl) d_C_fitRow_22 rfl (⟨_, rfl, by rw [bI_t.mp hz]; rfl, rfl⟩)
theorem c_fitRow {r : Nat} (hC : cnd X a c q K F T) (hq : q < 90) (hT : c 1 = oT a ins rt) (hV : c 2 = aI X 192 v) (hr : r < 64) : GW X a m_C_fitRow 1 22 0 0 0 (lv_args 0 [.ref (a q), .ref (a 1), .int (nI r)]) [] c (pI (eI (bI (fitR K F T v r)) c)) := by
  have k := c_fitGo (r := r) hC hq hT hV hr 3 0 rfl
  have e : (List.range 3).all (fun i => fitB K F T (0 + i) (v (3 * r + (0 + i)))) = fitR K F T v r := by
    simp [List.range_succ, fitR, Bool.and_assoc]
  rw [e] at k
  refine w_iconst 0 d_C_fitRow_0 (by decide) ?_
  refine w_istore_n d_C_fitRow_1 (by decide) ?_
  exact k
theorem c_put {j : Nat} {kd fr to : Int32} (hC : cnd X a c q K F T) (hq : q < 90) (hj : j < 3) : GW X a m_C_put 0 0 0 0 0 (lv_args 0 [.ref (a q), .int (nI j), .int kd, .int fr, .int to]) [] c (pV (fun w => cnd X a w q (upd K j kd) (upd F j fr) (upd T j (if kd = 1 then fr else to)) ∧ same c w [q + 1, q + 2, q + 3])) := by
  obtain ⟨h1, h2, h3, h4⟩ := hC
  have fin : ∀ t, cnd X a (va_up (va_up (va_up c (q + 1) (aI X 3 (upd K j kd))) (q + 2) (aI X 3 (upd F j fr))) (q + 3) (aI X 3 (upd T j t))) q (upd K j kd) (upd F j fr) (upd T j t) ∧ same c (va_up (va_up (va_up c (q + 1) (aI X 3 (upd K j kd))) (q + 2) (aI X 3 (upd F j fr))) (q + 3) (aI X 3 (upd T j t))) [q + 1, q + 2, q + 3] := fun t =>
    ⟨⟨va_n (by omega) (va_n (by omega) (va_n (by omega) h1)), va_n (by omega) (va_n (by omega) va_s), va_n (by omega) va_s, va_s⟩, same_trans (same_trans (same_up (by simp)) (same_up (by simp))) (same_up (by simp))⟩
  refine w_aload_n d_C_put_0 rfl ?_
  refine w_getf g_C_9 d_C_put_1 h1 rfl (by omega) ?_
  refine w_iload_n d_C_put_4 rfl ?_
  refine w_iload_n d_C_put_5 rfl ?_
  refine w_iast d_C_put_6 h2 rfl hj (by decide) (by omega) ?_
  refine w_aload_n d_C_put_7 rfl ?_
  refine w_getf g_C_15 d_C_put_8 (va_n (by omega) h1) rfl (by omega) ?_
  refine w_iload_n d_C_put_11 rfl ?_
  refine w_iload_n d_C_put_12 rfl ?_
  refine w_iast d_C_put_13 (va_n (by omega) h3) rfl hj (by decide) (by omega) ?_
  refine w_aload_n d_C_put_14 rfl ?_
  refine w_getf g_C_18 d_C_put_15 (va_n (by omega) (va_n (by omega) h1)) rfl (by omega) ?_
  refine w_iload_n d_C_put_18 rfl ?_
  refine w_iload_n d_C_put_19 rfl ?_
  refine w_iconst 1 d_C_put_20 (by decide) ?_
  refine w_icmp_ne 28 d_C_put_21 (by decide) (fun hz => ?_) (fun hz => ?_)
  · -- taken
    refine w_iload d_C_put_28 rfl ?_
    refine w_iast d_C_put_30 (va_n (by omega) (va_n (by omega) h4)) rfl hj (by decide) (by omega) ?_
    exact w_vret d_C_put_31 rfl (⟨rfl, by rw [if_neg hz]; exact fin to⟩)
  · -- not taken
    refine w_iload_n d_C_put_24 rfl ?_
    refine w_goto 30 d_C_put_25 (by decide) ?_
    refine w_iast d_C_put_30 (va_n (by omega) (va_n (by omega) h4)) rfl hj (by decide) (by omega) ?_
    exact w_vret d_C_put_31 rfl (⟨rfl, by rw [if_pos hz]; exact fin fr⟩)
-- one set of conditions is copied into another
theorem c_copyGo {q2 : Nat} {K2 F2 T2 : Nat → Int32} (hq : q < 90) (hq2 : q2 < 90) (hap : q + 3 < q2 ∨ q2 + 3 < q) : ∀ (d j : Nat) (c : Nat → va_E) (K F T : Nat → Int32), j + d = 3 → cnd X a c q K F T → cnd X a c q2 K2 F2 T2 → (∀ i, i < j → K i = K2 i ∧ F i = F2 i ∧ T i = toK K2 F2 T2 i) →
    GW X a m_C_copy 1 24 0 0 2 [(0, .ref (a q)), (1, .ref (a q2)), (2, .int (nI j))] [] c (pV (fun w => (∃ K' F' T', cnd X a w q K' F' T' ∧ ∀ i, i < 3 → K' i = K2 i ∧ F' i = F2 i ∧ T' i = toK K2 F2 T2 i) ∧ same c w [q + 1, q + 2, q + 3])) := by
  intro d
  induction d with
  | zero =>
    intro j c K F T hj hC hC2 hi
    have hj3 : j = 3 := by omega
    subst hj3
    refine w_iload_n d_C_copy_2 rfl ?_
    refine w_iconst 3 d_C_copy_3 (by decide) ?_
    refine w_icmp_ge 36 d_C_copy_4 (by decide) (fun _ => ?_) (fun hn => absurd ((nI_leI (a := 3) (b := 3) (by decide) (by decide)).mpr (by omega)) hn)
    exact w_vret d_C_copy_36 rfl (⟨rfl, ⟨K, F, T, hC, hi⟩, same_rf⟩)
  | succ d ih =>
    intro j c K F T hj hC hC2 hi
    refine w_iload_n d_C_copy_2 rfl ?_
    refine w_iconst 3 d_C_copy_3 (by decide) ?_
    refine w_icmp_ge 36 d_C_copy_4 (by decide) (fun hn => absurd hn (fun z => absurd ((nI_leI (a := 3) (by decide) (by omega)).mp z) (by omega))) (fun _ => ?_)
    refine w_aload_n d_C_copy_7 rfl ?_
    refine w_iload_n d_C_copy_8 rfl ?_
    refine w_aload_n d_C_copy_9 rfl ?_
    refine w_getf g_C_9 d_C_copy_10 hC2.1 rfl (by omega) ?_
    refine w_iload_n d_C_copy_13 rfl ?_
    refine w_iald d_C_copy_14 hC2.2.1 rfl (by omega) (by decide) (by omega) ?_
    refine w_aload_n d_C_copy_15 rfl ?_
    refine w_getf g_C_15 d_C_copy_16 hC2.1 rfl (by omega) ?_
    refine w_iload_n d_C_copy_19 rfl ?_
    refine w_iald d_C_copy_20 hC2.2.2.1 rfl (by omega) (by decide) (by omega) ?_
    refine w_aload_n d_C_copy_21 rfl ?_
    refine w_getf g_C_18 d_C_copy_22 hC2.1 rfl (by omega) ?_
    refine w_iload_n d_C_copy_25 rfl ?_
    refine w_iald d_C_copy_26 hC2.2.2.2 rfl (by omega) (by decide) (by omega) ?_
    refine w_vV [_, _, _, _] c_C_21 d_C_copy_27 rfl hC.1 (by omega) (c_put hC hq (by omega)) (fun w hw => ?_) rfl rfl (gq rfl) (gq rfl) (gq rfl) (gq rfl) (gq rfl) (gq rfl)
    obtain ⟨hC', hs⟩ := hw
    first | refine w_iinc _ d_C_copy_30 rfl (nIinc _) (by decide) ?_ | refine w_iinc _ d_C_copy_30 rfl rfl (by decide) ?_
    refine w_goto 2 d_C_copy_33 (by decide) ?_
    have hC2' : cnd X a w q2 K2 F2 T2 := ⟨(hs q2 (by simp; omega)).trans hC2.1, (hs (q2 + 1) (by simp; omega)).trans hC2.2.1, (hs (q2 + 2) (by simp; omega)).trans hC2.2.2.1, (hs (q2 + 3) (by simp; omega)).trans hC2.2.2.2⟩
    refine w_post (fun r w' hw' => ?_) (ih (j + 1) w _ _ _ (by omega) hC' hC2' (fun i hij => ?_))
    · exact ⟨hw'.1, hw'.2.1, same_trans hs hw'.2.2⟩
    · by_cases e : i = j
      · subst e; exact ⟨pk_us, pk_us, pk_us⟩
      · rw [pk_un e, pk_un e, pk_un e]; exact hi i (by omega)
theorem c_copy {q2 : Nat} {K2 F2 T2 : Nat → Int32} (hq : q < 90) (hq2 : q2 < 90) (hap : q + 3 < q2 ∨ q2 + 3 < q) (hC : cnd X a c q K F T) (hC2 : cnd X a c q2 K2 F2 T2) :
    GW X a m_C_copy 1 24 0 0 0 (lv_args 0 [.ref (a q), .ref (a q2)]) [] c (pV (fun w => (∃ K' F' T', cnd X a w q K' F' T' ∧ ∀ i, i < 3 → K' i = K2 i ∧ F' i = F2 i ∧ T' i = toK K2 F2 T2 i) ∧ same c w [q + 1, q + 2, q + 3])) := by
  refine w_iconst 0 d_C_copy_0 (by decide) ?_
  refine w_istore_n d_C_copy_1 (by decide) ?_
  exact c_copyGo hq hq2 hap 3 0 c K F T rfl hC hC2 (fun i h => absurd h (by omega))
theorem c_kindsCode (hC : cnd X a c q K F T) (hq : q < 90) : GW X a m_C_kindsCode 0 0 0 0 0 (lv_args 0 [.ref (a q)]) [] c (pI (eI (kc K) c)) := by
  obtain ⟨h1, h2, h3, h4⟩ := hC
  refine w_iconst 0 d_C_kindsCode_0 (by decide) ?_
  refine w_istore_n d_C_kindsCode_1 (by decide) ?_
  refine w_iconst 2 d_C_kindsCode_2 (by decide) ?_
  refine w_istore_n d_C_kindsCode_3 (by decide) ?_
  refine w_iload_n d_C_kindsCode_4 rfl ?_
  refine w_if_lt 25 d_C_kindsCode_5 (by decide) (fun hn => absurd hn ((by decide))) (fun _ => ?_)
  refine w_iload_n d_C_kindsCode_8 rfl ?_
  refine w_iconst 3 d_C_kindsCode_9 (by decide) ?_
  refine w_imul d_C_kindsCode_10 ?_
  refine w_aload_n d_C_kindsCode_11 rfl ?_
  refine w_getf g_C_9 d_C_kindsCode_12 h1 rfl (by omega) ?_
  refine w_iload_n d_C_kindsCode_15 rfl ?_
  refine w_iald d_C_kindsCode_16 h2 (show (2 : Int32) = nI 2 from rfl) (by decide) (by decide) (by omega) ?_
  refine w_iadd d_C_kindsCode_17 ?_
  refine w_istore_n d_C_kindsCode_18 (by decide) ?_
  refine w_iinc (1) d_C_kindsCode_19 rfl (by decide) (by decide) ?_
  refine w_goto 4 d_C_kindsCode_22 (by decide) ?_
  refine w_iload_n d_C_kindsCode_4 rfl ?_
  refine w_if_lt 25 d_C_kindsCode_5 (by decide) (fun hn => absurd hn ((by decide))) (fun _ => ?_)
  refine w_iload_n d_C_kindsCode_8 rfl ?_
  refine w_iconst 3 d_C_kindsCode_9 (by decide) ?_
  refine w_imul d_C_kindsCode_10 ?_
  refine w_aload_n d_C_kindsCode_11 rfl ?_
  refine w_getf g_C_9 d_C_kindsCode_12 h1 rfl (by omega) ?_
  refine w_iload_n d_C_kindsCode_15 rfl ?_
  refine w_iald d_C_kindsCode_16 h2 (show (1 : Int32) = nI 1 from rfl) (by decide) (by decide) (by omega) ?_
  refine w_iadd d_C_kindsCode_17 ?_
  refine w_istore_n d_C_kindsCode_18 (by decide) ?_
  refine w_iinc (0) d_C_kindsCode_19 rfl (by decide) (by decide) ?_
  refine w_goto 4 d_C_kindsCode_22 (by decide) ?_
  refine w_iload_n d_C_kindsCode_4 rfl ?_
  refine w_if_lt 25 d_C_kindsCode_5 (by decide) (fun hn => absurd hn ((by decide))) (fun _ => ?_)
  refine w_iload_n d_C_kindsCode_8 rfl ?_
  refine w_iconst 3 d_C_kindsCode_9 (by decide) ?_
  refine w_imul d_C_kindsCode_10 ?_
  refine w_aload_n d_C_kindsCode_11 rfl ?_
  refine w_getf g_C_9 d_C_kindsCode_12 h1 rfl (by omega) ?_
  refine w_iload_n d_C_kindsCode_15 rfl ?_
  refine w_iald d_C_kindsCode_16 h2 (show (0 : Int32) = nI 0 from rfl) (by decide) (by decide) (by omega) ?_
  refine w_iadd d_C_kindsCode_17 ?_
  refine w_istore_n d_C_kindsCode_18 (by decide) ?_
  refine w_iinc (-1) d_C_kindsCode_19 rfl (by decide) (by decide) ?_
  refine w_goto 4 d_C_kindsCode_22 (by decide) ?_
  refine w_iload_n d_C_kindsCode_4 rfl ?_
  refine w_if_lt 25 d_C_kindsCode_5 (by decide) (fun _ => ?_) (fun hn => absurd ((by decide)) hn)
  refine w_iload_n d_C_kindsCode_25 rfl ?_
  exact w_iret d_C_kindsCode_26 rfl (⟨_, rfl, rfl, rfl⟩)
theorem t_add {x y z : Int32} (hT : c 1 = oT a ins rt) (hV : c 2 = aI X 192 v) (hH : c 3 = aZ X 64 h) (hi : ins < 64) :
    GW X a m_T_add 1 23 0 0 0 (lv_args 0 [.ref (a 1), .int x, .int y, .int z]) [] c (pI (fun r w => r = nI ins ∧ w 1 = oT a (ins + 1) (rt + 1) ∧ w 2 = aI X 192 (upd (upd (upd v (3 * ins) x) (3 * ins + 1) y) (3 * ins + 2) z) ∧ w 3 = aZ X 64 (upd h ins 1) ∧ same c w [1, 2, 3])) := by
  refine w_aload_n d_T_add_0 rfl ?_
  refine w_getf g_T_19 d_T_add_1 hT rfl (by decide) ?_
  refine w_istore d_T_add_4 (by decide) ?_
  refine w_aload_n d_T_add_6 rfl ?_
  refine w_dup d_T_add_7 rfl ?_
  refine w_getf g_T_19 d_T_add_8 hT rfl (by decide) ?_
  refine w_iconst 1 d_T_add_11 (by decide) ?_
  refine w_iadd d_T_add_12 ?_
  rw [nI_1]
  refine w_putf p_T_19 d_T_add_13 hT rfl rfl (gqL rfl) (by decide) ?_
  refine w_aload_n d_T_add_16 rfl ?_
  refine w_iload d_T_add_17 rfl ?_
  refine w_iconst 0 d_T_add_19 (by decide) ?_
  refine w_iload_n d_T_add_20 rfl ?_
  refine w_vV [_, _, _] c_T_23 d_T_add_21 rfl rfl (by decide) (t_put (r := ins) (k := 0) (rt := rt) (ins := ins + 1) rfl hV hi (by decide)) (fun w hw => ?_) rfl rfl (gq rfl) (gq rfl) (gq rfl) (gq rfl) (gq rfl) (gq rfl)
  subst hw
  refine w_aload_n d_T_add_24 rfl ?_
  refine w_iload d_T_add_25 rfl ?_
  refine w_iconst 1 d_T_add_27 (by decide) ?_
  refine w_iload_n d_T_add_28 rfl ?_
  refine w_vV [_, _, _] c_T_23 d_T_add_29 rfl rfl (by decide) (t_put (r := ins) (k := 1) (rt := rt) (ins := ins + 1) rfl rfl hi (by decide)) (fun w hw => ?_) rfl rfl (gq rfl) (gq rfl) (gq rfl) (gq rfl) (gq rfl) (gq rfl)
  subst hw
  refine w_aload_n d_T_add_32 rfl ?_
  refine w_iload d_T_add_33 rfl ?_
  refine w_iconst 2 d_T_add_35 (by decide) ?_
  refine w_iload_n d_T_add_36 rfl ?_
  refine w_vV [_, _, _] c_T_23 d_T_add_37 rfl rfl (by decide) (t_put (r := ins) (k := 2) (rt := rt) (ins := ins + 1) rfl rfl hi (by decide)) (fun w hw => ?_) rfl rfl (gq rfl) (gq rfl) (gq rfl) (gq rfl) (gq rfl) (gq rfl)
  subst hw
  refine w_aload_n d_T_add_40 rfl ?_
  refine w_getf g_T_15 d_T_add_41 rfl rfl (by decide) ?_
  refine w_iload d_T_add_44 rfl ?_
  refine w_iconst 1 d_T_add_46 (by decide) ?_
  refine w_zast d_T_add_47 hH rfl hi (by decide) (by decide) (by decide) ?_
  refine w_aload_n d_T_add_48 rfl ?_
  refine w_dup d_T_add_49 rfl ?_
  refine w_getf g_T_27 d_T_add_50 rfl rfl (by decide) ?_
  refine w_iconst 1 d_T_add_53 (by decide) ?_
  refine w_iadd d_T_add_54 ?_
  rw [nI_1]
  refine w_putf p_T_27 d_T_add_55 rfl rfl rfl (gqL rfl) (by decide) ?_
  refine w_iload d_T_add_58 rfl ?_
  exact w_iret d_T_add_60 rfl (⟨_, rfl, rfl, rfl, rfl, rfl, same_trans (same_trans (same_trans (same_trans (same_trans (same_up (by simp)) (same_up (by simp))) (same_up (by simp))) (same_up (by simp))) (same_up (by simp))) (same_up (by simp))⟩)
theorem t_remove {r : Nat} (hT : c 1 = oT a ins (rt + 1)) (hH : c 3 = aZ X 64 h) (hr : r < 64) : GW X a m_T_remove 0 0 0 0 0 (lv_args 0 [.ref (a 1), .int (nI r)]) [] c (pV (fun w => w 1 = oT a ins rt ∧ w 3 = aZ X 64 (upd h r 0) ∧ same c w [1, 3])) := by
  refine w_aload_n d_T_remove_0 rfl ?_
  refine w_getf g_T_15 d_T_remove_1 hT rfl (by decide) ?_
  refine w_iload_n d_T_remove_4 rfl ?_
  refine w_iconst 0 d_T_remove_5 (by decide) ?_
  refine w_zast d_T_remove_6 hH rfl hr (by decide) (by decide) (by decide) ?_
  refine w_aload_n d_T_remove_7 rfl ?_
  refine w_dup d_T_remove_8 rfl ?_
  refine w_getf g_T_27 d_T_remove_9 hT rfl (by decide) ?_
  refine w_iconst 1 d_T_remove_12 (by decide) ?_
  refine w_isub d_T_remove_13 ?_
  rw [nI_pred]
  refine w_putf p_T_27 d_T_remove_14 hT rfl rfl (gqL rfl) (by decide) ?_
  exact w_vret d_T_remove_17 rfl (⟨rfl, rfl, rfl, same_trans (same_up (by simp)) (same_up (by simp))⟩)
end CN
