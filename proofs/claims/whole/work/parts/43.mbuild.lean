/-! The model: where, order, build, settle, work, drop -/
theorem cdQ_0 (k : QC) (d : QD) : cdQ k d 0 = k := rfl
theorem cdQ_s (k : QC) (d : QD) (q : Nat) : cdQ k d (q + 1) = ((d.2.2 q).1, (d.2.2 q).2.1, (d.2.2 q).2.2.1) := rfl
theorem mc_put {KK FF TT : Nat → Int32} {k : QC} {d : QD} (h : ∀ q, q ≤ d.1 → mcA KK FF TT q (cdQ k d q)) {i : Nat} {kd fr to : Int32} (hi : i < 3) : ∀ q, q ≤ d.1 → mcA (upd KK i kd) (upd FF i fr) (upd TT i to) q (cdQ (putC k i kd fr to) d q) := by
  intro q hq j hj
  have h1 := h q hq j hj
  cases q with
  | zero =>
    rw [cdQ_0] at h1 ⊢
    rw [Nat.mul_zero, Nat.zero_add] at h1 ⊢
    by_cases e : j = i
    · subst e
      simp only [putC, pk_us]
      refine ⟨?_, ?_, ?_⟩ <;> first | rfl | trivial
    · simp only [putC, pk_un e]
      exact h1
  | succ q =>
    rw [cdQ_s] at h1 ⊢
    rw [pk_un (by omega), pk_un (by omega), pk_un (by omega)]
    exact h1
section MB
variable {X : gX} {a : Nat → Nat} {c w : Nat → va_E} {th : Int32} {t : QT} {k : QC} {o : QO} {l : QL} {p : QP} {d : QD} {b : QB} {r : List Nat} {n : Nat}
theorem m_wh26 (h : mdl X a c th t k o l p d b r) {x y z u e : Int32} (he : ¬ e ≤ 0) : GW X a m_M_where 1 20 0 0 26 [(0, .ref (a 79)), (1, .int x), (2, .int y), (3, .int z), (4, .int u)] [.int e, .ref (a 79)] c (pV (fun w => mdl X a w e t k o l p d b r ∧ sameM c w)) := by
  obtain ⟨sc, hM⟩ := h.M
  refine w_putf p_M_72 d_M_where_26 hM rfl rfl (gqL rfl) (by decide) ?_
  refine w_aload_n d_M_where_29 rfl ?_
  refine w_getf g_M_72 d_M_where_30 va_s rfl (by decide) ?_
  refine w_if_le 37 d_M_where_33 (by decide) (fun hn => absurd hn (he)) (fun _ => ?_)
  exact w_vret d_M_where_36 rfl (⟨rfl, h.thr1, sameM_up (by decide) (by decide)⟩)
theorem m_where (h : mdl X a c th t k o l p d b r) {x y z u : Int32} : GW X a m_M_where 1 20 0 0 0 (lv_args 0 [.ref (a 79), .int x, .int y, .int z, .int u]) [] c (pV (fun w => ((∃ q, (q < 3 ∧ x = nI q) ∧ kdI y ∧ mdl X a w 0 t (putC k q y z u) o l p d b r) ∨ (¬ clI x ∧ mdl X a w 1 t k o l p d b r) ∨ (clI x ∧ ¬ kdI y ∧ mdl X a w 2 t k o l p d b r)) ∧ sameM c w)) := by
  obtain ⟨sc, hM⟩ := h.M
  obtain ⟨KK, FF, TT, c1, c2, c3, c4⟩ := h.C
  refine w_aload_n d_M_where_0 rfl ?_
  refine w_iload_n d_M_where_1 rfl ?_
  refine w_sI [_] c_M_98 d_M_where_2 (m_isCol) (fun x w hw => ?_) rfl rfl (gq rfl) (gq rfl) (gq rfl) (gq rfl) (gq rfl) (gq rfl)
  obtain ⟨h1, rfl⟩ := hw
  rcases h1 with ⟨rfl, q, q1, rfl⟩ | ⟨rfl, q1⟩
  · -- case
    refine w_if_ne 12 d_M_where_5 (by decide) (fun _ => ?_) (fun hn => absurd hn ((by decide)))
    refine w_iload_n d_M_where_12 rfl ?_
    refine w_if_lt 21 d_M_where_13 (by decide) (fun h1 => ?_) (fun h1 => ?_)
    · -- taken
      refine w_iconst 2 d_M_where_21 (by decide) ?_
      refine w_goto 26 d_M_where_22 (by decide) ?_
      exact w_post (fun r w hw => ⟨hw.1, Or.inr (Or.inr ⟨⟨q, q1, rfl⟩, fun z => by rcases z with rfl | rfl | rfl <;> exact absurd h1 (by decide), hw.2.1⟩), hw.2.2⟩) (m_wh26 h (e := 2) (by decide))
    · -- not taken
      refine w_iload_n d_M_where_16 rfl ?_
      refine w_iconst 2 d_M_where_17 (by decide) ?_
      refine w_icmp_le 25 d_M_where_18 (by decide) (fun h2 => ?_) (fun h2 => ?_)
      · -- taken
        refine w_iconst 0 d_M_where_25 (by decide) ?_
        refine w_putf p_M_72 d_M_where_26 hM rfl rfl (gqL rfl) (by decide) ?_
        refine w_aload_n d_M_where_29 rfl ?_
        refine w_getf g_M_72 d_M_where_30 va_s rfl (by decide) ?_
        refine w_if_le 37 d_M_where_33 (by decide) (fun _ => ?_) (fun hn => absurd ((by decide)) hn)
        refine w_aload_n d_M_where_37 rfl ?_
        refine w_getf g_M_30 d_M_where_38 va_s rfl (by decide) ?_
        refine w_iload_n d_M_where_41 rfl ?_
        refine w_iload_n d_M_where_42 rfl ?_
        refine w_iast d_M_where_43 (va_n (by decide) c1) rfl (by omega) (by decide) (by decide) ?_
        refine w_aload_n d_M_where_44 rfl ?_
        refine w_getf g_M_33 d_M_where_45 (va_n (by decide) va_s) rfl (by decide) ?_
        refine w_iload_n d_M_where_48 rfl ?_
        refine w_iload_n d_M_where_49 rfl ?_
        refine w_iast d_M_where_50 (va_n (by decide) (va_n (by decide) c2)) rfl (by omega) (by decide) (by decide) ?_
        refine w_aload_n d_M_where_51 rfl ?_
        refine w_getf g_M_36 d_M_where_52 (va_n (by decide) (va_n (by decide) va_s)) rfl (by decide) ?_
        refine w_iload_n d_M_where_55 rfl ?_
        refine w_iload d_M_where_56 rfl ?_
        refine w_iast d_M_where_58 (va_n (by decide) (va_n (by decide) (va_n (by decide) c3))) rfl (by omega) (by decide) (by decide) ?_
        exact w_vret d_M_where_59 rfl (⟨rfl, Or.inl ⟨q, ⟨q1, rfl⟩, kd_of h1 h2, h.part (L := [79, 85, 86, 87]) (same_trans (same_trans (same_trans (same_up (by simp)) (same_up (by simp))) (same_up (by simp))) (same_up (by simp))) ⟨sc, rfl⟩ (Or.inl ⟨by decide, rfl⟩) (Or.inl ⟨by decide, rfl⟩) ⟨by decide, by decide⟩ (Or.inl ⟨by decide, rfl⟩) (Or.inr ⟨_, _, _, rfl, rfl, rfl, mc_put c4 q1⟩) (Or.inl ⟨by decide, rfl, rfl⟩) (Or.inl ⟨by decide, by decide, rfl, rfl, rfl⟩) (Or.inl ⟨by decide, rfl⟩) (Or.inl ⟨by decide, by decide⟩)⟩, sameM_t (sameM_t (sameM_t (sameM_up (by decide) (by decide)) (sameM_up (by decide) (by decide))) (sameM_up (by decide) (by decide))) (sameM_up (by decide) (by decide))⟩)
      · -- not taken
        refine w_iconst 2 d_M_where_21 (by decide) ?_
        refine w_goto 26 d_M_where_22 (by decide) ?_
        exact w_post (fun r w hw => ⟨hw.1, Or.inr (Or.inr ⟨⟨q, q1, rfl⟩, fun z => by rcases z with rfl | rfl | rfl <;> exact absurd h2 (by decide), hw.2.1⟩), hw.2.2⟩) (m_wh26 h (e := 2) (by decide))
  · -- case
    refine w_if_ne 12 d_M_where_5 (by decide) (fun hn => absurd (rfl) hn) (fun _ => ?_)
    refine w_iconst 1 d_M_where_8 (by decide) ?_
    refine w_goto 26 d_M_where_9 (by decide) ?_
    exact w_post (fun r w hw => ⟨hw.1, Or.inr (Or.inl ⟨q1, hw.2.1⟩), hw.2.2⟩) (m_wh26 h (e := 1) (by decide))
theorem m_or32 (h : mdl X a c th t k o l p d b r) {x y e : Int32} (he : ¬ e ≤ 0) : GW X a m_M_order 1 20 0 0 32 [(0, .ref (a 79)), (1, .int x), (2, .int y)] [.int e, .ref (a 79)] c (pV (fun w => mdl X a w e t k o l p d b r ∧ sameM c w)) := by
  obtain ⟨sc, hM⟩ := h.M
  refine w_putf p_M_72 d_M_order_32 hM rfl rfl (gqL rfl) (by decide) ?_
  refine w_aload_n d_M_order_35 rfl ?_
  refine w_getf g_M_72 d_M_order_36 va_s rfl (by decide) ?_
  refine w_if_le 43 d_M_order_39 (by decide) (fun hn => absurd hn (he)) (fun _ => ?_)
  exact w_vret d_M_order_42 rfl (⟨rfl, h.thr1, sameM_up (by decide) (by decide)⟩)
abbrev ordM (X : gX) (a : Nat → Nat) (c : Nat → va_E) (t : QT) (k : QC) (o : QO) (l : QL) (p : QP) (d : QD) (b : QB) (r : List Nat) (x y : Int32) : gO → (Nat → va_E) → Prop := pV (fun w => ((isCol x ∧ ∃ m, m ≤ 64 ∧ y = nI m ∧ mdl X a w 0 t k (x, m, o.2.2) l p d b r) ∨ (¬ isCol x ∧ mdl X a w 1 t k o l p d b r) ∨ (isCol x ∧ ¬ (∃ m, m ≤ 64 ∧ y = nI m) ∧ mdl X a w 2 t k o l p d b r)) ∧ sameM c w)
theorem m_or17 (h : mdl X a c th t k o l p d b r) {x y : Int32} (hx : isCol x) : GW X a m_M_order 1 20 0 0 17 [(0, .ref (a 79)), (1, .int x), (2, .int y)] [.ref (a 79)] c (ordM X a c t k o l p d b r x y) := by
  obtain ⟨sc, hM⟩ := h.M
  refine w_iload_n d_M_order_17 rfl ?_
  refine w_if_lt 27 d_M_order_18 (by decide) (fun h1 => ?_) (fun h1 => ?_)
  · -- taken
    refine w_iconst 2 d_M_order_27 (by decide) ?_
    refine w_goto 32 d_M_order_28 (by decide) ?_
    exact w_post (fun r w hw => ⟨hw.1, Or.inr (Or.inr ⟨hx, fun z => by obtain ⟨m, hm, rfl⟩ := z; exact nI_n0 (by omega) h1, hw.2.1⟩), hw.2.2⟩) (m_or32 h (e := 2) (by decide))
  · -- not taken
    refine w_iload_n d_M_order_21 rfl ?_
    refine w_bipush 64 d_M_order_22 (by decide) ?_
    refine w_icmp_le 31 d_M_order_24 (by decide) (fun h2 => ?_) (fun h2 => ?_)
    · -- taken
      obtain ⟨m, hm, rfl⟩ := nn_le (n := 64) h1 h2 (by decide)
      refine w_iconst 0 d_M_order_31 (by decide) ?_
      refine w_putf p_M_72 d_M_order_32 hM rfl rfl (gqL rfl) (by decide) ?_
      refine w_aload_n d_M_order_35 rfl ?_
      refine w_getf g_M_72 d_M_order_36 va_s rfl (by decide) ?_
      refine w_if_le 43 d_M_order_39 (by decide) (fun _ => ?_) (fun hn => absurd ((by decide)) hn)
      refine w_aload_n d_M_order_43 rfl ?_
      refine w_iload_n d_M_order_44 rfl ?_
      refine w_putf p_M_39 d_M_order_45 va_s rfl rfl (gqL rfl) (by decide) ?_
      refine w_aload_n d_M_order_48 rfl ?_
      refine w_iload_n d_M_order_49 rfl ?_
      refine w_putf p_M_42 d_M_order_50 va_s rfl rfl (gqL rfl) (by decide) ?_
      exact w_vret d_M_order_53 rfl (⟨rfl, Or.inl ⟨hx, m, hm, rfl, h.fld (same_trans (same_trans (same_up (by simp)) (same_up (by simp))) (same_up (by simp))) ⟨sc, rfl⟩ rfl⟩, sameM_t (sameM_t (sameM_up (by decide) (by decide)) (sameM_up (by decide) (by decide))) (sameM_up (by decide) (by decide))⟩)
    · -- not taken
      refine w_iconst 2 d_M_order_27 (by decide) ?_
      refine w_goto 32 d_M_order_28 (by decide) ?_
      exact w_post (fun r w hw => ⟨hw.1, Or.inr (Or.inr ⟨hx, fun z => by obtain ⟨m, hm, rfl⟩ := z; exact h2 (nI_le (b := 64) hm (by decide)), hw.2.1⟩), hw.2.2⟩) (m_or32 h (e := 2) (by decide))
theorem m_order (h : mdl X a c th t k o l p d b r) {x y : Int32} : GW X a m_M_order 1 20 0 0 0 (lv_args 0 [.ref (a 79), .int x, .int y]) [] c (ordM X a c t k o l p d b r x y) := by
  refine w_aload_n d_M_order_0 rfl ?_
  refine w_iload_n d_M_order_1 rfl ?_
  refine w_iconst (-1) d_M_order_2 (by decide) ?_
  refine w_icmp_eq 17 d_M_order_3 (by decide) (fun h1 => ?_) (fun h1 => ?_)
  · -- taken
    exact m_or17 h (Or.inl h1)
  · -- not taken
    refine w_iload_n d_M_order_6 rfl ?_
    refine w_sI [_] c_M_98 d_M_order_7 (m_isCol) (fun x w hw => ?_) rfl rfl (gq rfl) (gq rfl) (gq rfl) (gq rfl) (gq rfl) (gq rfl)
    obtain ⟨h2, rfl⟩ := hw
    rcases h2 with ⟨rfl, q⟩ | ⟨rfl, q1⟩
    · -- case
      refine w_if_ne 17 d_M_order_10 (by decide) (fun _ => ?_) (fun hn => absurd hn ((by decide)))
      exact m_or17 h (Or.inr q)
    · -- case
      refine w_if_ne 17 d_M_order_10 (by decide) (fun hn => absurd (rfl) hn) (fun _ => ?_)
      refine w_iconst 1 d_M_order_13 (by decide) ?_
      refine w_goto 32 d_M_order_14 (by decide) ?_
      exact w_post (fun r w hw => ⟨hw.1, Or.inr (Or.inl ⟨fun z => z.elim h1 q1, hw.2.1⟩), hw.2.2⟩) (m_or32 h (e := 1) (by decide))
end MB
section MC
variable {X : gX} {a : Nat → Nat} {c w : Nat → va_E} {m : QM} {t : QT} {k : QC} {o : QO} {l : QL} {p : QP} {d : QD} {b : QB} {an n : Nat}
theorem m_left (hM : c 79 = oM a m t o l p d b an) (hh : b.2.1 ≤ t.1) : GW X a m_M_leftToDo 0 0 0 0 0 (lv_args 0 [.ref (a 79)]) [] c (pI (eI (nI (t.1 - b.2.1 + b.2.2.1)) c)) := by
  refine w_aload_n d_M_leftToDo_0 rfl ?_
  refine w_getf g_M_75 d_M_leftToDo_1 hM rfl (by decide) ?_
  refine w_aload_n d_M_leftToDo_4 rfl ?_
  refine w_getf g_M_81 d_M_leftToDo_5 hM rfl (by decide) ?_
  refine w_isub d_M_leftToDo_8 ?_
  refine w_aload_n d_M_leftToDo_9 rfl ?_
  refine w_getf g_M_84 d_M_leftToDo_10 hM rfl (by decide) ?_
  refine w_iadd d_M_leftToDo_13 ?_
  rw [pk_sub hh, nI_add]
  exact w_iret d_M_leftToDo_14 rfl (⟨_, rfl, rfl, rfl⟩)
theorem m_settle {j : Nat} (hM : c 79 = oM a m t o l p d b an) (hs : c 84 = aI X 9 b.2.2.2) (hb : b.1 = some j) (hj : j < 9) (hh : b.2.1 ≤ t.1) (hi : t.1 ≤ 64) (hsd : b.2.2.1 ≤ 1000) : GW X a m_M_settle 1 20 0 0 0 (lv_args 0 [.ref (a 79)]) [] c (pI (fun v w => v = nI (t.1 - b.2.1 + b.2.2.1) ∧ w 79 = oM a m t o l p d (finB b.1 (t.1 - b.2.1 + b.2.2.1), b.2.1, b.2.2.1, b.2.2.2) an ∧ w 84 = aI X 9 (finS b.2.2.2 b.1 (t.1 - b.2.1 + b.2.2.1)) ∧ same c w [79, 84])) := by
  have hM' : c 79 = oM a m t o l p d (some j, b.2.1, b.2.2.1, b.2.2.2) an := by rw [← hb]; exact hM
  refine w_aload_n d_M_settle_0 rfl ?_
  refine w_vI [] c_M_227 d_M_settle_1 rfl hM (by decide) (m_left hM hh) (fun x w hw => ?_) rfl rfl (gq rfl) (gq rfl) (gq rfl) (gq rfl) (gq rfl) (gq rfl)
  obtain ⟨rfl, rfl⟩ := hw
  refine w_istore_n d_M_settle_4 (by decide) ?_
  refine w_iload_n d_M_settle_5 rfl ?_
  refine w_if_ne 24 d_M_settle_6 (by decide) (fun h0 => ?_) (fun h0 => ?_)
  · -- taken
    have h0' : ¬ (t.1 - b.2.1 + b.2.2.1 = 0) := fun z => h0 (by rw [z]; rfl)
    refine w_iload_n d_M_settle_24 rfl ?_
    exact w_iret d_M_settle_25 rfl (⟨_, rfl, rfl, by unfold finB; rw [if_neg h0']; exact hM, by unfold finS; rw [if_neg h0']; exact hs, same_rf⟩)
  · -- not taken
    have h0' : t.1 - b.2.1 + b.2.2.1 = 0 := (nI_eq (b := 0) (by omega) (by decide)).mp h0
    refine w_aload_n d_M_settle_9 rfl ?_
    refine w_getf g_M_23 d_M_settle_10 hM' rfl (by decide) ?_
    refine w_aload_n d_M_settle_13 rfl ?_
    refine w_getf g_M_26 d_M_settle_14 hM' rfl (by decide) ?_
    refine w_iconst 2 d_M_settle_17 (by decide) ?_
    refine w_iast d_M_settle_18 hs rfl hj (by decide) (by decide) ?_
    refine w_aload_n d_M_settle_19 rfl ?_
    refine w_iconst (-1) d_M_settle_20 (by decide) ?_
    refine w_putf p_M_26 d_M_settle_21 (va_n (by decide) hM') rfl rfl (gqL rfl) (by decide) ?_
    refine w_iload_n d_M_settle_24 rfl ?_
    exact w_iret d_M_settle_25 rfl (⟨_, rfl, rfl, by unfold finB; rw [if_pos h0']; rfl, by unfold finS; rw [if_pos h0', hb]; rfl, same_trans (same_up (by simp)) (same_up (by simp))⟩)
end MC
section ME
variable {X : gX} {a : Nat → Nat} {c w : Nat → va_E} {th : Int32} {t : QT} {k : QC} {o : QO} {l : QL} {p : QP} {d : QD} {b : QB} {r : List Nat} {n : Nat}
theorem m_bu33 (h : mdl X a c th t k o l p d b r) {x e : Int32} (he : ¬ e ≤ 0) : GW X a m_M_build 2 41 0 0 33 [(0, .ref (a 79)), (1, .int x)] [.int e, .ref (a 79)] c (pV (fun w => mdl X a w e t k o l p d b r ∧ sameM c w)) := by
  obtain ⟨sc, hM⟩ := h.M
  refine w_putf p_M_72 d_M_build_33 hM rfl rfl (gqL rfl) (by decide) ?_
  refine w_aload_n d_M_build_36 rfl ?_
  refine w_getf g_M_72 d_M_build_37 va_s rfl (by decide) ?_
  refine w_if_le 44 d_M_build_40 (by decide) (fun hn => absurd hn (he)) (fun _ => ?_)
  exact w_vret d_M_build_43 rfl (⟨rfl, h.thr1, sameM_up (by decide) (by decide)⟩)
theorem m_build (h : mdl X a c th t k o l p d b r) (ok : okQ n t k o l p d b r) {x : Int32} : GW X a m_M_build 2 41 0 0 0 (lv_args 0 [.ref (a 79), .int x]) [] c (pV (fun w => ((∃ j, (j < 9 ∧ x = nI j) ∧ b.1 = none ∧ b.2.2.2 j = 0 ∧ mdl X a w 0 t k o l p d (begB b t.1 j) r) ∨ (¬ ixI x ∧ mdl X a w 1 t k o l p d b r) ∨ ((∃ j, (j < 9 ∧ x = nI j) ∧ ¬ (b.1 = none ∧ b.2.2.2 j = 0)) ∧ mdl X a w 2 t k o l p d b r)) ∧ sameM c w)) := by
  obtain ⟨sc, hM⟩ := h.M
  refine w_aload_n d_M_build_0 rfl ?_
  refine w_iload_n d_M_build_1 rfl ?_
  refine w_sI [_] c_M_123 d_M_build_2 (m_isIdx) (fun x w hw => ?_) rfl rfl (gq rfl) (gq rfl) (gq rfl) (gq rfl) (gq rfl) (gq rfl)
  obtain ⟨h1, rfl⟩ := hw
  rcases h1 with ⟨rfl, j, j1, rfl⟩ | ⟨rfl, q1⟩
  · -- case
    refine w_if_ne 12 d_M_build_5 (by decide) (fun _ => ?_) (fun hn => absurd hn ((by decide)))
    refine w_aload_n d_M_build_12 rfl ?_
    refine w_getf g_M_23 d_M_build_13 hM rfl (by decide) ?_
    refine w_iload_n d_M_build_16 rfl ?_
    refine w_iald d_M_build_17 h.s rfl j1 (by decide) (by decide) ?_
    refine w_if_ne 28 d_M_build_18 (by decide) (fun h2 => ?_) (fun h2 => ?_)
    · -- taken
      refine w_iconst 2 d_M_build_28 (by decide) ?_
      refine w_goto 33 d_M_build_29 (by decide) ?_
      exact w_post (fun r w hw => ⟨hw.1, Or.inr (Or.inr ⟨⟨j, ⟨j1, rfl⟩, fun z => h2 z.2⟩, hw.2.1⟩), hw.2.2⟩) (m_bu33 h (e := 2) (by decide))
    · -- not taken
      refine w_aload_n d_M_build_21 rfl ?_
      refine w_getf g_M_26 d_M_build_22 hM rfl (by decide) ?_
      rcases opt_or b.1 with hb | ⟨i, hb⟩
      · -- case
        refine w_if_lt 32 d_M_build_25 (by decide) (fun _ => ?_) (fun hn => absurd ((by rw [hb]; decide)) hn)
        refine w_iconst 0 d_M_build_32 (by decide) ?_
        refine w_putf p_M_72 d_M_build_33 hM rfl rfl (gqL rfl) (by decide) ?_
        refine w_aload_n d_M_build_36 rfl ?_
        refine w_getf g_M_72 d_M_build_37 va_s rfl (by decide) ?_
        refine w_if_le 44 d_M_build_40 (by decide) (fun _ => ?_) (fun hn => absurd ((by decide)) hn)
        refine w_aload_n d_M_build_44 rfl ?_
        refine w_iload_n d_M_build_45 rfl ?_
        refine w_putf p_M_26 d_M_build_46 va_s rfl rfl (gqL rfl) (by decide) ?_
        refine w_aload_n d_M_build_49 rfl ?_
        refine w_getf g_M_23 d_M_build_50 va_s rfl (by decide) ?_
        refine w_iload_n d_M_build_53 rfl ?_
        refine w_iconst 1 d_M_build_54 (by decide) ?_
        refine w_iast d_M_build_55 (va_n (by decide) (va_n (by decide) h.s)) rfl j1 (by decide) (by decide) ?_
        refine w_aload_n d_M_build_56 rfl ?_
        refine w_iconst 0 d_M_build_57 (by decide) ?_
        refine w_putf p_M_81 d_M_build_58 (va_n (by decide) va_s) rfl rfl (gqL rfl) (by decide) ?_
        refine w_aload_n d_M_build_61 rfl ?_
        refine w_iconst 0 d_M_build_62 (by decide) ?_
        refine w_putf p_M_84 d_M_build_63 va_s rfl rfl (gqL rfl) (by decide) ?_
        refine w_aload_n d_M_build_66 rfl ?_
        refine w_vI [] c_M_224 d_M_build_67 rfl va_s (by decide) (m_settle (j := j) (m := (0, sc)) (t := t) (o := o) (l := l) (p := p) (d := d) (b := (some j, 0, 0, upd b.2.2.2 j 1)) (an := r.length) va_s rfl rfl j1 (Nat.zero_le _) ok.1 (Nat.zero_le _)) (fun x w hw => ?_) rfl rfl (gq rfl) (gq rfl) (gq rfl) (gq rfl) (gq rfl) (gq rfl)
        obtain ⟨-, e1, e2, e3⟩ := hw
        refine w_pop d_M_build_70 rfl ?_
        exact w_vret d_M_build_71 rfl (⟨rfl, Or.inl ⟨j, ⟨j1, rfl⟩, hb, h2, h.bld (same_trans (same_trans (same_trans (same_trans (same_trans (same_up (by simp)) (same_up (by simp))) (same_up (by simp))) (same_up (by simp))) (same_up (by simp))) e3) ⟨sc, e1⟩ e2⟩, sameM_of (same_trans (same_trans (same_trans (same_trans (same_trans (same_up (by simp)) (same_up (by simp))) (same_up (by simp))) (same_up (by simp))) (same_up (by simp))) e3) (by simp)⟩)
      · -- case
        refine w_if_lt 32 d_M_build_25 (by decide) (fun hn => absurd hn ((by rw [hb]; exact nI_n0 (by have := ok.2.2.2.2.2.2.1.1 i hb; omega)))) (fun _ => ?_)
        refine w_iconst 2 d_M_build_28 (by decide) ?_
        refine w_goto 33 d_M_build_29 (by decide) ?_
        exact w_post (fun r w hw => ⟨hw.1, Or.inr (Or.inr ⟨⟨j, ⟨j1, rfl⟩, fun z => by rw [hb] at z; cases z.1⟩, hw.2.1⟩), hw.2.2⟩) (m_bu33 h (e := 2) (by decide))
  · -- case
    refine w_if_ne 12 d_M_build_5 (by decide) (fun hn => absurd (rfl) hn) (fun _ => ?_)
    refine w_iconst 1 d_M_build_8 (by decide) ?_
    refine w_goto 33 d_M_build_9 (by decide) ?_
    exact w_post (fun r w hw => ⟨hw.1, Or.inr (Or.inl ⟨q1, hw.2.1⟩), hw.2.2⟩) (m_bu33 h (e := 1) (by decide))
def hdI (b : QB) (ins i : Nat) : Nat := b.2.1 + min i (ins - b.2.1)
def sdI (b : QB) (ins i : Nat) : Nat := b.2.2.1 - min (i - min i (ins - b.2.1)) b.2.2.1
theorem m_wk94 {m j i an : Nat} {sc : Nat × Nat × Nat} (hM : c 79 = oM a (0, sc) t o l p d (b.1, hdI b t.1 m, sdI b t.1 m, b.2.2.2) an) (hs : c 84 = aI X 9 b.2.2.2) (hb : b.1 = some j) (hj : j < 9) (hh : b.2.1 ≤ t.1) (hi : t.1 ≤ 64) (hsd : b.2.2.1 ≤ 600) :
    GW X a m_M_work 2 41 0 0 94 [(0, .ref (a 79)), (1, .int (nI m)), (2, .int (nI i))] [] c (pI (fun v w => v = nI (lftB b t.1 m) ∧ w 79 = oM a (0, sc) t o l p d (wrkB b t.1 m) an ∧ w 84 = aI X 9 (wrkB b t.1 m).2.2.2 ∧ same c w [79, 84])) := by
  refine w_aload_n d_M_work_94 rfl ?_
  refine w_vI [] c_M_224 d_M_work_95 rfl hM (by decide) (m_settle (j := j) (m := (0, sc)) (t := t) (o := o) (l := l) (p := p) (d := d) (b := (b.1, hdI b t.1 m, sdI b t.1 m, b.2.2.2)) (an := an) hM hs hb hj (by show hdI b t.1 m ≤ t.1; unfold hdI; omega) hi (by show sdI b t.1 m ≤ 1000; unfold sdI; omega)) (fun x w hw => ?_) rfl rfl (gq rfl) (gq rfl) (gq rfl) (gq rfl) (gq rfl) (gq rfl)
  obtain ⟨rfl, e1, e2, e3⟩ := hw
  exact w_iret d_M_work_98 rfl (⟨_, rfl, rfl, e1, e2, e3⟩)
theorem m_wkGo {m j an : Nat} {sc : Nat × Nat × Nat} (hm : m ≤ 64) (hb : b.1 = some j) (hj : j < 9) (hh : b.2.1 ≤ t.1) (hi : t.1 ≤ 64) (hsd : b.2.2.1 ≤ 600) : ∀ (e i : Nat) (c : Nat → va_E), i + e = m → c 79 = oM a (0, sc) t o l p d (b.1, hdI b t.1 i, sdI b t.1 i, b.2.2.2) an → c 84 = aI X 9 b.2.2.2 →
    GW X a m_M_work 2 41 0 0 42 [(0, .ref (a 79)), (1, .int (nI m)), (2, .int (nI i))] [] c (pI (fun v w => v = nI (lftB b t.1 m) ∧ w 79 = oM a (0, sc) t o l p d (wrkB b t.1 m) an ∧ w 84 = aI X 9 (wrkB b t.1 m).2.2.2 ∧ same c w [79, 84])) := by
  intro e
  induction e with
  | zero =>
    intro i c hie hM hs
    have him : i = m := by omega
    subst him
    refine w_iload_n d_M_work_42 rfl ?_
    refine w_iload_n d_M_work_43 rfl ?_
    refine w_icmp_ge 94 d_M_work_44 (by decide) (fun _ => ?_) (fun hn => absurd ((nI_leI (by omega) (by omega)).mpr (Nat.le_refl _)) hn)
    exact m_wk94 hM hs hb hj hh hi hsd
  | succ e ih =>
    intro i c hie hM hs
    have hlf : t.1 - hdI b t.1 i + sdI b t.1 i ≤ 1000 := by unfold sdI; omega
    refine w_iload_n d_M_work_42 rfl ?_
    refine w_iload_n d_M_work_43 rfl ?_
    refine w_icmp_ge 94 d_M_work_44 (by decide) (fun hn => absurd hn (fun z => absurd ((nI_leI (by omega) (by omega)).mp z) (by omega))) (fun _ => ?_)
    refine w_aload_n d_M_work_47 rfl ?_
    refine w_vI [] c_M_227 d_M_work_48 rfl hM (by decide) (m_left (b := (b.1, hdI b t.1 i, sdI b t.1 i, b.2.2.2)) hM (by show hdI b t.1 i ≤ t.1; unfold hdI; omega)) (fun x w hw => ?_) rfl rfl (gq rfl) (gq rfl) (gq rfl) (gq rfl) (gq rfl) (gq rfl)
    obtain ⟨rfl, rfl⟩ := hw
    refine w_if_le 94 d_M_work_51 (by decide) (fun h0 => ?_) (fun h0 => ?_)
    · -- taken
      have h0' : t.1 - hdI b t.1 i + sdI b t.1 i = 0 := by have := (nI_leI (b := 0) (by show t.1 - hdI b t.1 i + sdI b t.1 i < 2 ^ 31; omega) (by decide)).mp h0; have h2 : t.1 - hdI b t.1 i + sdI b t.1 i ≤ 0 := this; omega
      have e1 : hdI b t.1 m = hdI b t.1 i := by unfold hdI sdI at *; omega
      have e2 : sdI b t.1 m = sdI b t.1 i := by unfold hdI sdI at *; omega
      exact m_wk94 (i := i) (by rw [e1, e2]; exact hM) hs hb hj hh hi hsd
    · -- not taken
      have h0' : ¬ t.1 - hdI b t.1 i + sdI b t.1 i = 0 := fun z => h0 (by show nI (t.1 - hdI b t.1 i + sdI b t.1 i) ≤ 0; rw [z]; decide)
      refine w_aload_n d_M_work_54 rfl ?_
      refine w_getf g_M_81 d_M_work_55 hM rfl (by decide) ?_
      refine w_aload_n d_M_work_58 rfl ?_
      refine w_getf g_M_75 d_M_work_59 hM rfl (by decide) ?_
      refine w_icmp_ge 78 d_M_work_62 (by decide) (fun h1 => ?_) (fun h1 => ?_)
      · -- taken
        have h1' : t.1 ≤ hdI b t.1 i := (nI_leI (by omega) (by show hdI b t.1 i < 2 ^ 31; unfold hdI; omega)).mp h1
        have e1 : hdI b t.1 (i + 1) = hdI b t.1 i := by unfold hdI at *; omega
        have e2 : sdI b t.1 i = sdI b t.1 (i + 1) + 1 := by unfold hdI sdI at *; omega
        refine w_aload_n d_M_work_78 rfl ?_
        refine w_dup d_M_work_79 rfl ?_
        refine w_getf g_M_84 d_M_work_80 hM rfl (by decide) ?_
        refine w_iconst 1 d_M_work_83 (by decide) ?_
        refine w_isub d_M_work_84 ?_
        rw [show nI (sdI b t.1 i) - 1 = nI (sdI b t.1 (i + 1)) by rw [e2, nI_pred]]
        refine w_putf p_M_84 d_M_work_85 hM rfl rfl (gqL rfl) (by decide) ?_
        first | refine w_iinc _ d_M_work_88 rfl (nIinc _) (by decide) ?_ | refine w_iinc _ d_M_work_88 rfl rfl (by decide) ?_
        refine w_goto 42 d_M_work_91 (by decide) ?_
        refine w_post (fun r w hw => ?_) (ih (i + 1) _ (by omega) (by rw [e1]; rfl) (va_n (by decide) hs))
        obtain ⟨v, q0, q1, q2, q3, q4⟩ := hw
        exact ⟨v, q0, q1, q2, q3, same_trans (same_up (by simp)) q4⟩
      · -- not taken
        have h1' : hdI b t.1 i < t.1 := (nI_ltI (by show hdI b t.1 i < 2 ^ 31; unfold hdI; omega) (by omega)).mp (nle_lt h1)
        have e1 : hdI b t.1 (i + 1) = hdI b t.1 i + 1 := by unfold hdI at *; omega
        have e2 : sdI b t.1 (i + 1) = sdI b t.1 i := by unfold hdI sdI at *; omega
        refine w_aload_n d_M_work_65 rfl ?_
        refine w_dup d_M_work_66 rfl ?_
        refine w_getf g_M_81 d_M_work_67 hM rfl (by decide) ?_
        refine w_iconst 1 d_M_work_70 (by decide) ?_
        refine w_iadd d_M_work_71 ?_
        rw [show nI (hdI b t.1 i) + 1 = nI (hdI b t.1 (i + 1)) by rw [e1, nI_1]]
        refine w_putf p_M_81 d_M_work_72 hM rfl rfl (gqL rfl) (by decide) ?_
        refine w_goto 88 d_M_work_75 (by decide) ?_
        first | refine w_iinc _ d_M_work_88 rfl (nIinc _) (by decide) ?_ | refine w_iinc _ d_M_work_88 rfl rfl (by decide) ?_
        refine w_goto 42 d_M_work_91 (by decide) ?_
        refine w_post (fun r w hw => ?_) (ih (i + 1) _ (by omega) (by rw [e2]; rfl) (va_n (by decide) hs))
        obtain ⟨v, q0, q1, q2, q3, q4⟩ := hw
        exact ⟨v, q0, q1, q2, q3, same_trans (same_up (by simp)) q4⟩
theorem m_wk28 (h : mdl X a c th t k o l p d b r) {x e : Int32} (he : ¬ e ≤ 0) : GW X a m_M_work 2 41 0 0 28 [(0, .ref (a 79)), (1, .int x)] [.int e, .ref (a 79)] c (pI (fun _ w => mdl X a w e t k o l p d b r ∧ sameM c w)) := by
  obtain ⟨sc, hM⟩ := h.M
  refine w_putf p_M_72 d_M_work_28 hM rfl rfl (gqL rfl) (by decide) ?_
  refine w_aload_n d_M_work_31 rfl ?_
  refine w_getf g_M_72 d_M_work_32 va_s rfl (by decide) ?_
  refine w_if_le 40 d_M_work_35 (by decide) (fun hn => absurd hn (he)) (fun _ => ?_)
  refine w_iconst 0 d_M_work_38 (by decide) ?_
  exact w_iret d_M_work_39 rfl (⟨_, rfl, h.thr1, sameM_up (by decide) (by decide)⟩)
theorem m_work (h : mdl X a c th t k o l p d b r) (ok : okQ n t k o l p d b r) {x : Int32} : GW X a m_M_work 2 41 0 0 0 (lv_args 0 [.ref (a 79), .int x]) [] c (pI (fun v w => ((∃ m, (1 ≤ m ∧ m ≤ 64 ∧ x = nI m) ∧ ¬ b.1 = none ∧ v = nI (lftB b t.1 m) ∧ mdl X a w 0 t k o l p d (wrkB b t.1 m) r) ∨ (¬ (∃ m, 1 ≤ m ∧ m ≤ 64 ∧ x = nI m) ∧ mdl X a w 1 t k o l p d b r) ∨ ((∃ m, 1 ≤ m ∧ m ≤ 64 ∧ x = nI m) ∧ b.1 = none ∧ mdl X a w 2 t k o l p d b r)) ∧ sameM c w)) := by
  obtain ⟨sc, hM⟩ := h.M
  have o1 := ok.2.2.2.2.2.2.1
  have hn := ok.2.2.2.2.2.2.2.2
  refine w_aload_n d_M_work_0 rfl ?_
  refine w_iload_n d_M_work_1 rfl ?_
  refine w_iconst 1 d_M_work_2 (by decide) ?_
  refine w_icmp_lt 12 d_M_work_3 (by decide) (fun h1 => ?_) (fun h1 => ?_)
  · -- taken
    refine w_iconst 1 d_M_work_12 (by decide) ?_
    refine w_goto 28 d_M_work_13 (by decide) ?_
    refine w_post (fun r w hw => ?_) (m_wk28 h (e := 1) (by decide))
    obtain ⟨v, e1, e2, e3⟩ := hw
    exact ⟨v, e1, Or.inr (Or.inl ⟨fun z => by obtain ⟨m, m1, hm, rfl⟩ := z; exact le_nlt (nI_le (a := 1) m1 (by omega)) h1, e2⟩), e3⟩
  · -- not taken
    refine w_iload_n d_M_work_6 rfl ?_
    refine w_bipush 64 d_M_work_7 (by decide) ?_
    refine w_icmp_le 16 d_M_work_9 (by decide) (fun h2 => ?_) (fun h2 => ?_)
    · -- taken
      have h0 : ¬ x < 0 := fun z => h1 (Int32.lt_trans z (by decide))
      obtain ⟨m, hm, rfl⟩ := nn_le (n := 64) h0 h2 (by decide)
      have m1 : 1 ≤ m := by rcases Nat.eq_zero_or_pos m with z | z; subst z; exact absurd (show nI 0 < 1 by decide) h1; exact z
      refine w_aload_n d_M_work_16 rfl ?_
      refine w_getf g_M_26 d_M_work_17 hM rfl (by decide) ?_
      rcases opt_or b.1 with hb | ⟨j, hb⟩
      · -- case
        refine w_if_ge 27 d_M_work_20 (by decide) (fun hn => absurd hn ((by rw [hb]; decide))) (fun _ => ?_)
        refine w_iconst 2 d_M_work_23 (by decide) ?_
        refine w_goto 28 d_M_work_24 (by decide) ?_
        refine w_post (fun r w hw => ?_) (m_wk28 h (e := 2) (by decide))
        obtain ⟨v, e1, e2, e3⟩ := hw
        exact ⟨v, e1, Or.inr (Or.inr ⟨⟨m, m1, hm, rfl⟩, hb, e2⟩), e3⟩
      · -- case
        refine w_if_ge 27 d_M_work_20 (by decide) (fun _ => ?_) (fun hn => absurd ((by rw [hb]; exact nI_pos' (by have := o1.1 j hb; omega))) hn)
        refine w_iconst 0 d_M_work_27 (by decide) ?_
        refine w_putf p_M_72 d_M_work_28 hM rfl rfl (gqL rfl) (by decide) ?_
        refine w_aload_n d_M_work_31 rfl ?_
        refine w_getf g_M_72 d_M_work_32 va_s rfl (by decide) ?_
        refine w_if_le 40 d_M_work_35 (by decide) (fun _ => ?_) (fun hn => absurd ((by decide)) hn)
        refine w_iconst 0 d_M_work_40 (by decide) ?_
        refine w_istore_n d_M_work_41 (by decide) ?_
        refine w_post (fun r' w hw => ?_) (m_wkGo (sc := sc) (an := r.length) hm hb (o1.1 j hb) o1.2.1 ok.1 (by omega) m 0 _ (by omega) (by show _ = oM a (0, sc) t o l p d (b.1, hdI b t.1 0, sdI b t.1 0, b.2.2.2) r.length; rw [show hdI b t.1 0 = b.2.1 by unfold hdI; omega, show sdI b t.1 0 = b.2.2.1 by unfold sdI; omega]; rfl) (va_n (by decide) h.s))
        obtain ⟨v, q0, q1, q2, q3, q4⟩ := hw
        exact ⟨v, q0, Or.inl ⟨m, ⟨m1, hm, rfl⟩, (fun z => by rw [hb] at z; cases z), q1, h.bld (same_trans (same_up (by simp)) q4) ⟨sc, q2⟩ q3⟩, sameM_of (same_trans (same_up (by simp)) q4) (by simp)⟩
    · -- not taken
      refine w_iconst 1 d_M_work_12 (by decide) ?_
      refine w_goto 28 d_M_work_13 (by decide) ?_
      refine w_post (fun r w hw => ?_) (m_wk28 h (e := 1) (by decide))
      obtain ⟨v, e1, e2, e3⟩ := hw
      exact ⟨v, e1, Or.inr (Or.inl ⟨fun z => by obtain ⟨m, m1, hm, rfl⟩ := z; exact h2 (nI_le (b := 64) hm (by decide)), e2⟩), e3⟩
theorem m_dr13 (h : mdl X a c th t k o l p d b r) {x : Int32} : GW X a m_M_drop 1 20 0 0 12 [(0, .ref (a 79)), (1, .int x)] [.ref (a 79)] c (pI (fun _ w => mdl X a w 1 t k o l p d b r ∧ sameM c w)) := by
  obtain ⟨sc, hM⟩ := h.M
  refine w_iconst 1 d_M_drop_12 (by decide) ?_
  refine w_putf p_M_72 d_M_drop_13 hM rfl rfl (gqL rfl) (by decide) ?_
  refine w_aload_n d_M_drop_16 rfl ?_
  refine w_getf g_M_72 d_M_drop_17 va_s rfl (by decide) ?_
  refine w_if_gt 32 d_M_drop_20 (by decide) (fun _ => ?_) (fun hn => absurd ((by decide)) hn)
  refine w_iconst 0 d_M_drop_32 (by decide) ?_
  exact w_zret (by first | exact Or.inl rfl | exact Or.inr rfl) d_M_drop_33 rfl (⟨_, rfl, h.thr1, sameM_up (by decide) (by decide)⟩)
theorem m_drop (h : mdl X a c th t k o l p d b r) (ok : okQ n t k o l p d b r) {x : Int32} : GW X a m_M_drop 1 20 0 0 0 (lv_args 0 [.ref (a 79), .int x]) [] c (pI (fun v w => ((∃ j, (j < 9 ∧ x = nI j) ∧ v = bI (decide (¬ b.2.2.2 j = 0)) ∧ mdl X a w 0 t k o l p d (drpB b j) r) ∨ (¬ ixI x ∧ mdl X a w 1 t k o l p d b r)) ∧ sameM c w)) := by
  obtain ⟨sc, hM⟩ := h.M
  refine w_aload_n d_M_drop_0 rfl ?_
  refine w_iload_n d_M_drop_1 rfl ?_
  refine w_sI [_] c_M_123 d_M_drop_2 (m_isIdx) (fun x w hw => ?_) rfl rfl (gq rfl) (gq rfl) (gq rfl) (gq rfl) (gq rfl) (gq rfl)
  obtain ⟨h1, rfl⟩ := hw
  rcases h1 with ⟨rfl, j, j1, rfl⟩ | ⟨rfl, q1⟩
  · -- case
    refine w_if_eq 12 d_M_drop_5 (by decide) (fun hn => absurd hn ((by decide))) (fun _ => ?_)
    refine w_iconst 0 d_M_drop_8 (by decide) ?_
    refine w_goto 13 d_M_drop_9 (by decide) ?_
    refine w_putf p_M_72 d_M_drop_13 hM rfl rfl (gqL rfl) (by decide) ?_
    refine w_aload_n d_M_drop_16 rfl ?_
    refine w_getf g_M_72 d_M_drop_17 va_s rfl (by decide) ?_
    refine w_if_gt 32 d_M_drop_20 (by decide) (fun hn => absurd hn ((by decide))) (fun _ => ?_)
    refine w_aload_n d_M_drop_23 rfl ?_
    refine w_getf g_M_23 d_M_drop_24 va_s rfl (by decide) ?_
    refine w_iload_n d_M_drop_27 rfl ?_
    refine w_iald d_M_drop_28 (va_n (by decide) h.s) rfl j1 (by decide) (by decide) ?_
    refine w_if_ne 34 d_M_drop_29 (by decide) (fun h2 => ?_) (fun h2 => ?_)
    · -- taken
      have hv : (1 : Int32) = bI (decide (¬ b.2.2.2 j = 0)) := by simp [h2, bI]
      refine w_aload_n d_M_drop_34 rfl ?_
      refine w_aload_n d_M_drop_35 rfl ?_
      refine w_getf g_M_26 d_M_drop_36 va_s rfl (by decide) ?_
      rcases Classical.em (b.1 = some j) with hb | hb
      · -- case
        refine w_iload_n d_M_drop_39 rfl ?_
        refine w_icmp_ne 47 d_M_drop_40 (by decide) (fun hn => absurd ((by rw [hb]; rfl)) hn) (fun _ => ?_)
        refine w_iconst (-1) d_M_drop_43 (by decide) ?_
        refine w_goto 51 d_M_drop_44 (by decide) ?_
        refine w_putf p_M_26 d_M_drop_51 va_s rfl rfl (gqL rfl) (by decide) ?_
        refine w_aload_n d_M_drop_54 rfl ?_
        refine w_getf g_M_23 d_M_drop_55 va_s rfl (by decide) ?_
        refine w_iload_n d_M_drop_58 rfl ?_
        refine w_iconst 0 d_M_drop_59 (by decide) ?_
        refine w_iast d_M_drop_60 (va_n (by decide) (va_n (by decide) h.s)) rfl j1 (by decide) (by decide) ?_
        refine w_iconst 1 d_M_drop_61 (by decide) ?_
        exact w_zret (Or.inr rfl) d_M_drop_62 rfl ( ⟨_, rfl, Or.inl ⟨j, ⟨j1, rfl⟩, hv, h.bld (b' := drpB b j) (same_trans (same_trans (same_up (by simp)) (same_up (by simp))) (same_up (by simp))) ⟨sc, by unfold drpB; rw [if_pos hb]; rfl⟩ rfl⟩, sameM_t (sameM_t (sameM_up (by decide) (by decide)) (sameM_up (by decide) (by decide))) (sameM_up (by decide) (by decide))⟩)
      · -- case
        refine w_iload_n d_M_drop_39 rfl ?_
        refine w_icmp_ne 47 d_M_drop_40 (by decide) (fun _ => ?_) (fun hn => absurd hn ((fun z => hb (by rcases opt_or b.1 with e | ⟨i, e⟩; rw [e] at z; exact absurd z.symm (nI_neg (by omega)); rw [e] at z ⊢; rw [(nI_eq (by have := ok.2.2.2.2.2.2.1.1 i e; omega) (by omega)).mp z]))))
        refine w_aload_n d_M_drop_47 rfl ?_
        refine w_getf g_M_26 d_M_drop_48 va_s rfl (by decide) ?_
        refine w_putf p_M_26 d_M_drop_51 va_s rfl rfl (gqL rfl) (by decide) ?_
        refine w_aload_n d_M_drop_54 rfl ?_
        refine w_getf g_M_23 d_M_drop_55 va_s rfl (by decide) ?_
        refine w_iload_n d_M_drop_58 rfl ?_
        refine w_iconst 0 d_M_drop_59 (by decide) ?_
        refine w_iast d_M_drop_60 (va_n (by decide) (va_n (by decide) h.s)) rfl j1 (by decide) (by decide) ?_
        refine w_iconst 1 d_M_drop_61 (by decide) ?_
        exact w_zret (Or.inr rfl) d_M_drop_62 rfl ( ⟨_, rfl, Or.inl ⟨j, ⟨j1, rfl⟩, hv, h.bld (b' := drpB b j) (same_trans (same_trans (same_up (by simp)) (same_up (by simp))) (same_up (by simp))) ⟨sc, by unfold drpB; rw [if_neg hb]; rfl⟩ rfl⟩, sameM_t (sameM_t (sameM_up (by decide) (by decide)) (sameM_up (by decide) (by decide))) (sameM_up (by decide) (by decide))⟩)
    · -- not taken
      have hv : (0 : Int32) = bI (decide (¬ b.2.2.2 j = 0)) := by simp [h2, bI]
      have hb : ¬ b.1 = some j := fun z => ok.2.2.2.2.2.2.1.2.2.2 j z h2
      have hu : upd b.2.2.2 j 0 = b.2.2.2 := by funext i; by_cases e : i = j; rw [e, pk_us, h2]; rw [pk_un e]
      have hd : drpB b j = b := by unfold drpB; rw [if_neg hb, hu]
      refine w_iconst 0 d_M_drop_32 (by decide) ?_
      exact w_zret (Or.inl rfl) d_M_drop_33 rfl ( ⟨_, rfl, Or.inl ⟨j, ⟨j1, rfl⟩, hv, by rw [hd]; exact h.thr1⟩, sameM_up (by decide) (by decide)⟩)
  · -- case
    refine w_if_eq 12 d_M_drop_5 (by decide) (fun _ => ?_) (fun hn => absurd (rfl) hn)
    refine w_post (fun r w hw => ?_) (m_dr13 h)
    obtain ⟨v, e1, e2, e3⟩ := hw
    exact ⟨v, e1, Or.inr ⟨q1, e2⟩, e3⟩
end ME
