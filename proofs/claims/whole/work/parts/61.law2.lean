/-! The law's wrappers: the rest -/
section LX
variable {X : gX} {a : Nat → Nat} {c : Nat → va_E} {t : QT} {k : QC} {o : QO} {l : QL} {p : QP} {d : QD} {b : QB} {r : List Nat} {n : Nat} {u : Nat → Int64}
abbrev outJ (X : gX) (w : Nat → va_E) (v : Int64) : Prop := ∃ u', w 94 = aJ X 1 u' ∧ u' 0 = v
theorem l_change (hX : X.l.stackTraces = false) (h : cls X a c t k o l p d b r) (ok : okQ n t k o l p d b r) {x y z : Int32} : GW X a m_L_change 8 134 3 18 0 (lv_args 0 [.ref (a 0), .int x, .int y, .int z]) [] c (pI (fun w0 w => ((w0 = 0 ∧ ∃ j q, (j < t.1 ∧ x = nI j ∧ ¬ t.2.2 j = 0) ∧ (q < 3 ∧ y = nI q) ∧ isV z ∧ cls X a w (putT t j q z) k o l p (ntD d) (ntB b j) r) ∨ (w0 = 1 ∧ ¬ (rwI t x ∧ clI y) ∧ cls X a w t k o l p d b r) ∨ (w0 = 2 ∧ (rwI t x ∧ clI y) ∧ ¬ isV z ∧ cls X a w t k o l p d b r)) ∧ sameA c w)) := by
  refine w_aload_n d_L_change_0 rfl ?_
  refine w_iload_n d_L_change_1 rfl ?_
  refine w_iload_n d_L_change_2 rfl ?_
  refine w_iload_n d_L_change_3 rfl ?_
  refine w_vVC [_, _, _] c_L_23 d_L_change_4 rfl h.A (by decide) (a_change hX h ok) (fun w hw => ?_) (fun e w hw => ?_) rfl rfl (gq rfl) (gq rfl) (gq rfl) (gq rfl) (gq rfl) (gq rfl)
  · -- back
    obtain ⟨j, q, h1, h2, h3, hc, hs⟩ := hw
    refine w_goto 18 d_L_change_7 (by decide) ?_
    refine w_iconst 0 d_L_change_18 (by decide) ?_
    exact w_iret d_L_change_19 rfl (⟨_, rfl, Or.inl ⟨rfl, j, q, h1, h2, h3, hc⟩, hs⟩)
  · -- thrown
    obtain ⟨hk, rfl⟩ := hw
    rcases hk with ⟨rfl, hn⟩ | ⟨rfl, h1, h2⟩
    · -- case
      refine ⟨_, gHp1 rfl (gq rfl) (gqL rfl) (by decide) w_662 (by decide), fun x => ?_⟩
      refine w_astore d_L_change_10 (by decide) ?_
      refine w_iconst 1 d_L_change_12 (by decide) ?_
      exact w_iret d_L_change_13 rfl (⟨_, rfl, Or.inr (Or.inl ⟨rfl, hn, h⟩), sameA_rf⟩)
    · -- case
      refine ⟨_, gHp2 (j := 2) rfl (gq rfl) (gqL rfl) (by decide) w_537 (by decide) (by decide) w_662 (by decide) (by decide), fun x => ?_⟩
      refine w_astore d_L_change_14 (by decide) ?_
      refine w_iconst 2 d_L_change_16 (by decide) ?_
      exact w_iret d_L_change_17 rfl (⟨_, rfl, Or.inr (Or.inr ⟨rfl, h1, h2, h⟩), sameA_rf⟩)
theorem l_value (hX : X.l.stackTraces = false) (h : cls X a c t k o l p d b r) (ok : okQ n t k o l p d b r) (hO : c 94 = aJ X 1 u) {x y : Int32} : GW X a m_L_value 8 133 2 12 0 (lv_args 0 [.ref (a 0), .int x, .int y, .ref (a 94)]) [] c (pI (fun w0 w => ((w0 = 0 ∧ ∃ j q, (j < t.1 ∧ x = nI j ∧ ¬ t.2.2 j = 0) ∧ (q < 3 ∧ y = nI q) ∧ outJ X w (t.2.1 (3 * j + q)).toInt64 ∧ cls X a w t k o l p d b r) ∨ (w0 = 1 ∧ ¬ (rwI t x ∧ clI y) ∧ w 94 = aJ X 1 u ∧ cls X a w t k o l p d b r)) ∧ sameL c w)) := by
  refine w_aload_n d_L_value_0 rfl ?_
  refine w_iconst 0 d_L_value_1 (by decide) ?_
  refine w_aload_n d_L_value_2 rfl ?_
  refine w_iload_n d_L_value_3 rfl ?_
  refine w_iload_n d_L_value_4 rfl ?_
  refine w_vIC [_, _] c_L_27 d_L_value_5 rfl h.A (by decide) (a_value hX h ok) (fun x w hw => ?_) (fun e w hw => ?_) rfl rfl (gq rfl) (gq rfl) (gq rfl) (gq rfl) (gq rfl) (gq rfl)
  · -- back
    obtain ⟨j, q, h1, h2, rfl, rfl⟩ := hw
    refine w_i2l d_L_value_8 ?_
    refine w_last d_L_value_9 hO (show (0 : Int32) = nI 0 from rfl) (by decide : 0 < 1) (by decide) (by decide) ?_
    refine w_goto 17 d_L_value_10 (by decide) ?_
    refine w_iconst 0 d_L_value_17 (by decide) ?_
    exact w_iret d_L_value_18 rfl (⟨_, rfl, Or.inl ⟨rfl, j, q, h1, h2, ⟨_, va_s, rfl⟩, h.out⟩, sameL_u sameA_rf⟩)
  · -- thrown
    obtain ⟨rfl, hn, rfl⟩ := hw
    refine ⟨_, gHp1 rfl (gq rfl) (gqL rfl) (by decide) w_662 (by decide), fun x => ?_⟩
    refine w_astore d_L_value_13 (by decide) ?_
    refine w_iconst 1 d_L_value_15 (by decide) ?_
    exact w_iret d_L_value_16 rfl (⟨_, rfl, Or.inr ⟨rfl, hn, hO, h⟩, sameL_rf⟩)
theorem l_where (hX : X.l.stackTraces = false) (h : cls X a c t k o l p d b r) {x y z v : Int32} : GW X a m_L_where 8 134 2 12 0 (lv_args 0 [.ref (a 0), .int x, .int y, .int z, .int v]) [] c (pI (fun w0 w => ((w0 = 0 ∧ ∃ q, (q < 3 ∧ x = nI q) ∧ kdI y ∧ cls X a w t (putC k q y z v) o l p d b r) ∨ (w0 = 1 ∧ ¬ clI x ∧ cls X a w t k o l p d b r) ∨ (w0 = 2 ∧ clI x ∧ ¬ kdI y ∧ cls X a w t k o l p d b r)) ∧ sameA c w)) := by
  refine w_aload_n d_L_where_0 rfl ?_
  refine w_iload_n d_L_where_1 rfl ?_
  refine w_iload_n d_L_where_2 rfl ?_
  refine w_iload_n d_L_where_3 rfl ?_
  refine w_iload d_L_where_4 rfl ?_
  refine w_vVC [_, _, _, _] c_L_31 d_L_where_6 rfl h.A (by decide) (a_where hX h) (fun w hw => ?_) (fun e w hw => ?_) rfl rfl (gq rfl) (gq rfl) (gq rfl) (gq rfl) (gq rfl) (gq rfl)
  · -- back
    obtain ⟨q, h1, h2, hc, hs⟩ := hw
    refine w_goto 20 d_L_where_9 (by decide) ?_
    refine w_iconst 0 d_L_where_20 (by decide) ?_
    exact w_iret d_L_where_21 rfl (⟨_, rfl, Or.inl ⟨rfl, q, h1, h2, hc⟩, hs⟩)
  · -- thrown
    obtain ⟨hk, rfl⟩ := hw
    rcases hk with ⟨rfl, hn⟩ | ⟨rfl, h1, h2⟩
    · -- case
      refine ⟨_, gHp1 rfl (gq rfl) (gqL rfl) (by decide) w_662 (by decide), fun x => ?_⟩
      refine w_astore d_L_where_12 (by decide) ?_
      refine w_iconst 1 d_L_where_14 (by decide) ?_
      exact w_iret d_L_where_15 rfl (⟨_, rfl, Or.inr (Or.inl ⟨rfl, hn, h⟩), sameA_rf⟩)
    · -- case
      refine ⟨_, gHp2 (j := 2) rfl (gq rfl) (gqL rfl) (by decide) w_537 (by decide) (by decide) w_662 (by decide) (by decide), fun x => ?_⟩
      refine w_astore d_L_where_16 (by decide) ?_
      refine w_iconst 2 d_L_where_18 (by decide) ?_
      exact w_iret d_L_where_19 rfl (⟨_, rfl, Or.inr (Or.inr ⟨rfl, h1, h2, h⟩), sameA_rf⟩)
theorem l_order (hX : X.l.stackTraces = false) (h : cls X a c t k o l p d b r) {x y : Int32} : GW X a m_L_order 8 132 2 12 0 (lv_args 0 [.ref (a 0), .int x, .int y]) [] c (pI (fun w0 w => ((w0 = 0 ∧ isCol x ∧ ∃ m, m ≤ 64 ∧ y = nI m ∧ cls X a w t k (x, m, o.2.2) l p d b r) ∨ (w0 = 1 ∧ ¬ isCol x ∧ cls X a w t k o l p d b r) ∨ (w0 = 2 ∧ isCol x ∧ (¬ ∃ m, m ≤ 64 ∧ y = nI m) ∧ cls X a w t k o l p d b r)) ∧ sameA c w)) := by
  refine w_aload_n d_L_order_0 rfl ?_
  refine w_iload_n d_L_order_1 rfl ?_
  refine w_iload_n d_L_order_2 rfl ?_
  refine w_vVC [_, _] c_L_35 d_L_order_3 rfl h.A (by decide) (a_order hX h) (fun w hw => ?_) (fun e w hw => ?_) rfl rfl (gq rfl) (gq rfl) (gq rfl) (gq rfl) (gq rfl) (gq rfl)
  · -- back
    obtain ⟨h1, m, h2, h3, hc, hs⟩ := hw
    refine w_goto 15 d_L_order_6 (by decide) ?_
    refine w_iconst 0 d_L_order_15 (by decide) ?_
    exact w_iret d_L_order_16 rfl (⟨_, rfl, Or.inl ⟨rfl, h1, m, h2, h3, hc⟩, hs⟩)
  · -- thrown
    obtain ⟨hk, rfl⟩ := hw
    rcases hk with ⟨rfl, hn⟩ | ⟨rfl, h1, h2⟩
    · -- case
      refine ⟨_, gHp1 rfl (gq rfl) (gqL rfl) (by decide) w_662 (by decide), fun x => ?_⟩
      refine w_astore_n d_L_order_9 (by decide) ?_
      refine w_iconst 1 d_L_order_10 (by decide) ?_
      exact w_iret d_L_order_11 rfl (⟨_, rfl, Or.inr (Or.inl ⟨rfl, hn, h⟩), sameA_rf⟩)
    · -- case
      refine ⟨_, gHp2 (j := 2) rfl (gq rfl) (gqL rfl) (by decide) w_537 (by decide) (by decide) w_662 (by decide) (by decide), fun x => ?_⟩
      refine w_astore_n d_L_order_12 (by decide) ?_
      refine w_iconst 2 d_L_order_13 (by decide) ?_
      exact w_iret d_L_order_14 rfl (⟨_, rfl, Or.inr (Or.inr ⟨rfl, h1, h2, h⟩), sameA_rf⟩)
theorem l_answer (hX : X.l.stackTraces = false) (h : cls X a c t k o l p d b r) (ok : okQ n t k o l p d b r) (hO : c 94 = aJ X 1 u) {x : Int32} : GW X a m_L_answer 7 111 1 6 0 (lv_args 0 [.ref (a 0), .int x, .ref (a 94)]) [] c (pI (fun w0 w => ((w0 = 0 ∧ ∃ j, j < r.length ∧ x = nI j ∧ outJ X w (nI (r.getD j 0)).toInt64 ∧ cls X a w t k o l p d b r) ∨ (w0 = 1 ∧ ¬ (∃ j, j < r.length ∧ x = nI j) ∧ w 94 = aJ X 1 u ∧ cls X a w t k o l p d b r)) ∧ sameL c w)) := by
  refine w_aload_n d_L_answer_0 rfl ?_
  refine w_iconst 0 d_L_answer_1 (by decide) ?_
  refine w_aload_n d_L_answer_2 rfl ?_
  refine w_iload_n d_L_answer_3 rfl ?_
  refine w_vIC [_] c_L_39 d_L_answer_4 rfl h.A (by decide) (a_answer hX h ok) (fun x w hw => ?_) (fun e w hw => ?_) rfl rfl (gq rfl) (gq rfl) (gq rfl) (gq rfl) (gq rfl) (gq rfl)
  · -- back
    obtain ⟨j, h1, h2, rfl, rfl⟩ := hw
    refine w_i2l d_L_answer_7 ?_
    refine w_last d_L_answer_8 hO (show (0 : Int32) = nI 0 from rfl) (by decide : 0 < 1) (by decide) (by decide) ?_
    refine w_goto 15 d_L_answer_9 (by decide) ?_
    refine w_iconst 0 d_L_answer_15 (by decide) ?_
    exact w_iret d_L_answer_16 rfl (⟨_, rfl, Or.inl ⟨rfl, j, h1, h2, ⟨_, va_s, rfl⟩, h.out⟩, sameL_u sameA_rf⟩)
  · -- thrown
    obtain ⟨rfl, hn, rfl⟩ := hw
    refine ⟨_, gHp1 rfl (gq rfl) (gqL rfl) (by decide) w_662 (by decide), fun x => ?_⟩
    refine w_astore_n d_L_answer_12 (by decide) ?_
    refine w_iconst 1 d_L_answer_13 (by decide) ?_
    exact w_iret d_L_answer_14 rfl (⟨_, rfl, Or.inr ⟨rfl, hn, hO, h⟩, sameL_rf⟩)
theorem l_last (hX : X.l.stackTraces = false) (h : cls X a c t k o l p d b r) (hO : c 94 = aJ X 1 u) {x : Int32} : GW X a m_L_last 7 111 1 6 0 (lv_args 0 [.ref (a 0), .int x, .ref (a 94)]) [] c (pI (fun w0 w => ((w0 = 0 ∧ ∃ y : Int32, ((x = 0 ∧ y = oI l.1) ∨ (x = 1 ∧ y = l.2) ∨ (x = 2 ∧ y = nI p.2.2.2.2.1) ∨ (x = 3 ∧ y = nI p.2.2.2.2.2)) ∧ outJ X w y.toInt64 ∧ cls X a w t k o l p d b r) ∨ (w0 = 1 ∧ ¬ (x = 0 ∨ x = 1 ∨ x = 2 ∨ x = 3) ∧ w 94 = aJ X 1 u ∧ cls X a w t k o l p d b r)) ∧ sameL c w)) := by
  refine w_aload_n d_L_last_0 rfl ?_
  refine w_iconst 0 d_L_last_1 (by decide) ?_
  refine w_aload_n d_L_last_2 rfl ?_
  refine w_iload_n d_L_last_3 rfl ?_
  refine w_vIC [_] c_L_43 d_L_last_4 rfl h.A (by decide) (a_last hX h) (fun x w hw => ?_) (fun e w hw => ?_) rfl rfl (gq rfl) (gq rfl) (gq rfl) (gq rfl) (gq rfl) (gq rfl)
  · -- back
    rename_i y
    obtain ⟨h1, rfl⟩ := hw
    refine w_i2l d_L_last_7 ?_
    refine w_last d_L_last_8 hO (show (0 : Int32) = nI 0 from rfl) (by decide : 0 < 1) (by decide) (by decide) ?_
    refine w_goto 15 d_L_last_9 (by decide) ?_
    refine w_iconst 0 d_L_last_15 (by decide) ?_
    exact w_iret d_L_last_16 rfl (⟨_, rfl, Or.inl ⟨rfl, _, h1, ⟨_, va_s, rfl⟩, h.out⟩, sameL_u sameA_rf⟩)
  · -- thrown
    obtain ⟨rfl, hn, rfl⟩ := hw
    refine ⟨_, gHp1 rfl (gq rfl) (gqL rfl) (by decide) w_662 (by decide), fun x => ?_⟩
    refine w_astore_n d_L_last_12 (by decide) ?_
    refine w_iconst 1 d_L_last_13 (by decide) ?_
    exact w_iret d_L_last_14 rfl (⟨_, rfl, Or.inr ⟨rfl, hn, hO, h⟩, sameL_rf⟩)
theorem l_cost (hX : X.l.stackTraces = false) (h : cls X a c t k o l p d b r) (ok : okQ n t k o l p d b r) (hO : c 94 = aJ X 1 u) {x : Int32} : GW X a m_L_cost 8 136 1 6 0 (lv_args 0 [.ref (a 0), .int x, .ref (a 94)]) [] c (pI (fun w0 w => ((w0 = 0 ∧ ∃ q, (∀ j, q = some j → j < 9) ∧ x = oI q ∧ outJ X w (wyV (cst t k) (nI (fours t.1)) q).toInt64 ∧ cls X a w t k o l p d b r) ∨ (w0 = 1 ∧ ¬ (x = -1 ∨ ixI x) ∧ w 94 = aJ X 1 u ∧ cls X a w t k o l p d b r)) ∧ sameL c w)) := by
  refine w_aload_n d_L_cost_0 rfl ?_
  refine w_iconst 0 d_L_cost_1 (by decide) ?_
  refine w_aload_n d_L_cost_2 rfl ?_
  refine w_iload_n d_L_cost_3 rfl ?_
  refine w_vIC [_] c_L_46 d_L_cost_4 rfl h.A (by decide) (a_cost hX h ok) (fun x w hw => ?_) (fun e w hw => ?_) rfl rfl (gq rfl) (gq rfl) (gq rfl) (gq rfl) (gq rfl) (gq rfl)
  · -- back
    obtain ⟨q, h1, h2, rfl, hc, hs⟩ := hw
    refine w_i2l d_L_cost_7 ?_
    refine w_last d_L_cost_8 ((hs 94 (by decide)).trans hO) (show (0 : Int32) = nI 0 from rfl) (by decide : 0 < 1) (by decide) (by decide) ?_
    refine w_goto 15 d_L_cost_9 (by decide) ?_
    refine w_iconst 0 d_L_cost_15 (by decide) ?_
    exact w_iret d_L_cost_16 rfl (⟨_, rfl, Or.inl ⟨rfl, q, h1, h2, ⟨_, va_s, rfl⟩, hc.out⟩, sameL_u hs⟩)
  · -- thrown
    obtain ⟨rfl, hn, rfl⟩ := hw
    refine ⟨_, gHp1 rfl (gq rfl) (gqL rfl) (by decide) w_662 (by decide), fun x => ?_⟩
    refine w_astore_n d_L_cost_12 (by decide) ?_
    refine w_iconst 1 d_L_cost_13 (by decide) ?_
    exact w_iret d_L_cost_14 rfl (⟨_, rfl, Or.inr ⟨rfl, hn, hO, h⟩, sameL_rf⟩)
theorem l_index (hX : X.l.stackTraces = false) (h : cls X a c t k o l p d b r) (ok : okQ n t k o l p d b r) (hO : c 94 = aJ X 1 u) {x y : Int32} : GW X a m_L_index 8 132 2 12 0 (lv_args 0 [.ref (a 0), .int x, .int y, .ref (a 94)]) [] c (pI (fun w0 w => ((w0 = 0 ∧ ∃ j z, (j < 9 ∧ x = nI j) ∧ ((y = 0 ∧ z = b.2.2.2 j) ∨ (y = 1 ∧ z = nI (hgt (leavesOf (liv t)))) ∨ (y = 2 ∧ z = nI (szo (leavesOf (liv t)))) ∨ (y = 3 ∧ z = oI (feGo t.2.2 (gtv t.2.1 (nI (fN j)) (scol j)) t.1))) ∧ outJ X w (Int32.toInt64 z) ∧ cls X a w t k o l p d b r) ∨ (w0 = 1 ∧ ¬ (ixI x ∧ (y = 0 ∨ y = 1 ∨ y = 2 ∨ y = 3)) ∧ w 94 = aJ X 1 u ∧ cls X a w t k o l p d b r)) ∧ sameL c w)) := by
  refine w_aload_n d_L_index_0 rfl ?_
  refine w_iconst 0 d_L_index_1 (by decide) ?_
  refine w_aload_n d_L_index_2 rfl ?_
  refine w_iload_n d_L_index_3 rfl ?_
  refine w_iload_n d_L_index_4 rfl ?_
  refine w_vIC [_, _] c_L_49 d_L_index_5 rfl h.A (by decide) (a_index hX h ok) (fun x w hw => ?_) (fun e w hw => ?_) rfl rfl (gq rfl) (gq rfl) (gq rfl) (gq rfl) (gq rfl) (gq rfl)
  · -- back
    obtain ⟨j, h1, h2, rfl⟩ := hw
    refine w_i2l d_L_index_8 ?_
    refine w_last d_L_index_9 hO (show (0 : Int32) = nI 0 from rfl) (by decide : 0 < 1) (by decide) (by decide) ?_
    refine w_goto 17 d_L_index_10 (by decide) ?_
    refine w_iconst 0 d_L_index_17 (by decide) ?_
    exact w_iret d_L_index_18 rfl (⟨_, rfl, Or.inl ⟨rfl, j, _, h1, h2, ⟨_, va_s, rfl⟩, h.out⟩, sameL_u sameA_rf⟩)
  · -- thrown
    obtain ⟨rfl, hn, rfl⟩ := hw
    refine ⟨_, gHp1 rfl (gq rfl) (gqL rfl) (by decide) w_662 (by decide), fun x => ?_⟩
    refine w_astore d_L_index_13 (by decide) ?_
    refine w_iconst 1 d_L_index_15 (by decide) ?_
    exact w_iret d_L_index_16 rfl (⟨_, rfl, Or.inr ⟨rfl, hn, hO, h⟩, sameL_rf⟩)
theorem l_shape (hX : X.l.stackTraces = false) (h : cls X a c t k o l p d b r) (ok : okQ n t k o l p d b r) (hO : c 94 = aJ X 1 u) {x y : Int32} : GW X a m_L_shape 7 138 2 12 0 (lv_args 0 [.ref (a 0), .int x, .int y, .ref (a 94)]) [] c (pI (fun w0 w => ((w0 = 0 ∧ ∃ j z, (j < d.1 ∧ x = nI j) ∧ ((y = 0 ∧ z = nI (d.2.2 j).2.2.2) ∨ (y = 1 ∧ z = kc (d.2.2 j).1) ∨ (y = 2 ∧ z = lsS t.2.2 t.2.1 t.1 (liv t) (rdyN b.2.2.2 9) (d.2.2 j))) ∧ outJ X w (Int32.toInt64 z) ∧ cls X a w t k o l p d b r) ∨ (w0 = 1 ∧ ¬ ((∃ j, j < d.1 ∧ x = nI j) ∧ (y = 0 ∨ y = 1 ∨ y = 2)) ∧ w 94 = aJ X 1 u ∧ cls X a w t k o l p d b r)) ∧ sameL c w)) := by
  refine w_aload_n d_L_shape_0 rfl ?_
  refine w_iconst 0 d_L_shape_1 (by decide) ?_
  refine w_aload_n d_L_shape_2 rfl ?_
  refine w_iload_n d_L_shape_3 rfl ?_
  refine w_iload_n d_L_shape_4 rfl ?_
  refine w_vIC [_, _] c_L_52 d_L_shape_5 rfl h.A (by decide) (a_shape hX h ok) (fun x w hw => ?_) (fun e w hw => ?_) rfl rfl (gq rfl) (gq rfl) (gq rfl) (gq rfl) (gq rfl) (gq rfl)
  · -- back
    obtain ⟨j, h1, h2, hc, hs⟩ := hw
    refine w_i2l d_L_shape_8 ?_
    refine w_last d_L_shape_9 ((hs 94 (by decide)).trans hO) (show (0 : Int32) = nI 0 from rfl) (by decide : 0 < 1) (by decide) (by decide) ?_
    refine w_goto 17 d_L_shape_10 (by decide) ?_
    refine w_iconst 0 d_L_shape_17 (by decide) ?_
    exact w_iret d_L_shape_18 rfl (⟨_, rfl, Or.inl ⟨rfl, j, _, h1, h2, ⟨_, va_s, rfl⟩, hc.out⟩, sameL_u hs⟩)
  · -- thrown
    obtain ⟨rfl, hn, rfl⟩ := hw
    refine ⟨_, gHp1 rfl (gq rfl) (gqL rfl) (by decide) w_662 (by decide), fun x => ?_⟩
    refine w_astore d_L_shape_13 (by decide) ?_
    refine w_iconst 1 d_L_shape_15 (by decide) ?_
    exact w_iret d_L_shape_16 rfl (⟨_, rfl, Or.inr ⟨rfl, hn, hO, h⟩, sameL_rf⟩)
theorem l_budget (hX : X.l.stackTraces = false) (h : cls X a c t k o l p d b r) {x : Int32} : GW X a m_L_budget 7 111 1 6 0 (lv_args 0 [.ref (a 0), .int x]) [] c (pI (fun w0 w => ((w0 = 0 ∧ ∃ m, m ≤ 200 ∧ x = nI m ∧ cls X a w t k (o.1, o.2.1, m) l p d b r) ∨ (w0 = 1 ∧ ¬ (∃ m, m ≤ 200 ∧ x = nI m) ∧ cls X a w t k o l p d b r)) ∧ sameA c w)) := by
  refine w_aload_n d_L_budget_0 rfl ?_
  refine w_iload_n d_L_budget_1 rfl ?_
  refine w_vVC [_] c_L_55 d_L_budget_2 rfl h.A (by decide) (a_budget hX h) (fun w hw => ?_) (fun e w hw => ?_) rfl rfl (gq rfl) (gq rfl) (gq rfl) (gq rfl) (gq rfl) (gq rfl)
  · -- back
    obtain ⟨m, h1, h2, hc, hs⟩ := hw
    refine w_goto 11 d_L_budget_5 (by decide) ?_
    refine w_iconst 0 d_L_budget_11 (by decide) ?_
    exact w_iret d_L_budget_12 rfl (⟨_, rfl, Or.inl ⟨rfl, m, h1, h2, hc⟩, hs⟩)
  · -- thrown
    obtain ⟨rfl, hn, rfl⟩ := hw
    refine ⟨_, gHp1 rfl (gq rfl) (gqL rfl) (by decide) w_537 (by decide), fun x => ?_⟩
    refine w_astore_n d_L_budget_8 (by decide) ?_
    refine w_iconst 1 d_L_budget_9 (by decide) ?_
    exact w_iret d_L_budget_10 rfl (⟨_, rfl, Or.inr ⟨rfl, hn, h⟩, sameA_rf⟩)
theorem l_costOf (hX : X.l.stackTraces = false) (h : cls X a c t k o l p d b r) (ok : okQ n t k o l p d b r) (hO : c 94 = aJ X 1 u) {x : Int32} : GW X a m_L_costOf 7 158 1 6 0 (lv_args 0 [.ref (a 0), .int x, .ref (a 94)]) [] c (pI (fun w0 w => ((w0 = 0 ∧ ∃ m, (m < 512 ∧ x = nI m) ∧ outJ X w (setQ t d m) ∧ cls X a w t k o l p d b r) ∨ (w0 = 1 ∧ ¬ (∃ m, m < 512 ∧ x = nI m) ∧ w 94 = aJ X 1 u ∧ cls X a w t k o l p d b r)) ∧ sameL c w)) := by
  refine w_aload_n d_L_costOf_0 rfl ?_
  refine w_iconst 0 d_L_costOf_1 (by decide) ?_
  refine w_aload_n d_L_costOf_2 rfl ?_
  refine w_iload_n d_L_costOf_3 rfl ?_
  refine w_vJC [_] c_L_58 d_L_costOf_4 rfl h.A (by decide) (a_costOf hX h ok) (fun x w hw => ?_) (fun e w hw => ?_) rfl rfl (gq rfl) (gq rfl) (gq rfl) (gq rfl) (gq rfl) (gq rfl)
  · -- back
    obtain ⟨m, h1, rfl, hc, hs⟩ := hw
    refine w_last d_L_costOf_7 ((hs 94 (by decide)).trans hO) (show (0 : Int32) = nI 0 from rfl) (by decide : 0 < 1) (by decide) (by decide) ?_
    refine w_goto 14 d_L_costOf_8 (by decide) ?_
    refine w_iconst 0 d_L_costOf_14 (by decide) ?_
    exact w_iret d_L_costOf_15 rfl (⟨_, rfl, Or.inl ⟨rfl, m, h1, ⟨_, va_s, rfl⟩, hc.out⟩, sameL_u hs⟩)
  · -- thrown
    obtain ⟨rfl, hn, rfl⟩ := hw
    refine ⟨_, gHp1 rfl (gq rfl) (gqL rfl) (by decide) w_537 (by decide), fun x => ?_⟩
    refine w_astore_n d_L_costOf_11 (by decide) ?_
    refine w_iconst 1 d_L_costOf_12 (by decide) ?_
    exact w_iret d_L_costOf_13 rfl (⟨_, rfl, Or.inr ⟨rfl, hn, hO, h⟩, sameL_rf⟩)
theorem l_build (hX : X.l.stackTraces = false) (h : cls X a c t k o l p d b r) (ok : okQ n t k o l p d b r) {x : Int32} : GW X a m_L_build 8 131 2 12 0 (lv_args 0 [.ref (a 0), .int x]) [] c (pI (fun w0 w => ((w0 = 0 ∧ ∃ j, (j < 9 ∧ x = nI j) ∧ b.1 = none ∧ b.2.2.2 j = 0 ∧ cls X a w t k o l p d (begB b t.1 j) r) ∨ (w0 = 1 ∧ ¬ ixI x ∧ cls X a w t k o l p d b r) ∨ (w0 = 2 ∧ (∃ j, (j < 9 ∧ x = nI j) ∧ ¬ (b.1 = none ∧ b.2.2.2 j = 0)) ∧ cls X a w t k o l p d b r)) ∧ sameA c w)) := by
  refine w_aload_n d_L_build_0 rfl ?_
  refine w_iload_n d_L_build_1 rfl ?_
  refine w_vVC [_] c_L_62 d_L_build_2 rfl h.A (by decide) (a_build hX h ok) (fun w hw => ?_) (fun e w hw => ?_) rfl rfl (gq rfl) (gq rfl) (gq rfl) (gq rfl) (gq rfl) (gq rfl)
  · -- back
    obtain ⟨j, h1, h2, h3, hc, hs⟩ := hw
    refine w_goto 14 d_L_build_5 (by decide) ?_
    refine w_iconst 0 d_L_build_14 (by decide) ?_
    exact w_iret d_L_build_15 rfl (⟨_, rfl, Or.inl ⟨rfl, j, h1, h2, h3, hc⟩, hs⟩)
  · -- thrown
    obtain ⟨hk, rfl⟩ := hw
    rcases hk with ⟨rfl, hn⟩ | ⟨rfl, h1⟩
    · -- case
      refine ⟨_, gHp1 rfl (gq rfl) (gqL rfl) (by decide) w_662 (by decide), fun x => ?_⟩
      refine w_astore_n d_L_build_8 (by decide) ?_
      refine w_iconst 1 d_L_build_9 (by decide) ?_
      exact w_iret d_L_build_10 rfl (⟨_, rfl, Or.inr (Or.inl ⟨rfl, hn, h⟩), sameA_rf⟩)
    · -- case
      refine ⟨_, gHp2 (j := 2) rfl (gq rfl) (gqL rfl) (by decide) w_802 (by decide) (by decide) w_662 (by decide) (by decide), fun x => ?_⟩
      refine w_astore_n d_L_build_11 (by decide) ?_
      refine w_iconst 2 d_L_build_12 (by decide) ?_
      exact w_iret d_L_build_13 rfl (⟨_, rfl, Or.inr (Or.inr ⟨rfl, h1, h⟩), sameA_rf⟩)
theorem l_work (hX : X.l.stackTraces = false) (h : cls X a c t k o l p d b r) (ok : okQ n t k o l p d b r) (hO : c 94 = aJ X 1 u) {x : Int32} : GW X a m_L_work 7 111 2 12 0 (lv_args 0 [.ref (a 0), .int x, .ref (a 94)]) [] c (pI (fun w0 w => ((w0 = 0 ∧ ∃ m, (1 ≤ m ∧ m ≤ 64 ∧ x = nI m) ∧ ¬ b.1 = none ∧ outJ X w (nI (lftB b t.1 m)).toInt64 ∧ cls X a w t k o l p d (wrkB b t.1 m) r) ∨ (w0 = 1 ∧ ¬ (∃ m, 1 ≤ m ∧ m ≤ 64 ∧ x = nI m) ∧ w 94 = aJ X 1 u ∧ cls X a w t k o l p d b r) ∨ (w0 = 2 ∧ (∃ m, 1 ≤ m ∧ m ≤ 64 ∧ x = nI m) ∧ b.1 = none ∧ w 94 = aJ X 1 u ∧ cls X a w t k o l p d b r)) ∧ sameL c w)) := by
  refine w_aload_n d_L_work_0 rfl ?_
  refine w_iconst 0 d_L_work_1 (by decide) ?_
  refine w_aload_n d_L_work_2 rfl ?_
  refine w_iload_n d_L_work_3 rfl ?_
  refine w_vIC [_] c_L_67 d_L_work_4 rfl h.A (by decide) (a_work hX h ok) (fun x w hw => ?_) (fun e w hw => ?_) rfl rfl (gq rfl) (gq rfl) (gq rfl) (gq rfl) (gq rfl) (gq rfl)
  · -- back
    obtain ⟨m, h1, h2, rfl, hc, hs⟩ := hw
    refine w_i2l d_L_work_7 ?_
    refine w_last d_L_work_8 ((hs 94 (by decide)).trans hO) (show (0 : Int32) = nI 0 from rfl) (by decide : 0 < 1) (by decide) (by decide) ?_
    refine w_goto 18 d_L_work_9 (by decide) ?_
    refine w_iconst 0 d_L_work_18 (by decide) ?_
    exact w_iret d_L_work_19 rfl (⟨_, rfl, Or.inl ⟨rfl, m, h1, h2, ⟨_, va_s, rfl⟩, hc.out⟩, sameL_u hs⟩)
  · -- thrown
    obtain ⟨hk, rfl⟩ := hw
    rcases hk with ⟨rfl, hn⟩ | ⟨rfl, h1, h2⟩
    · -- case
      refine ⟨_, gHp1 rfl (gq rfl) (gqL rfl) (by decide) w_537 (by decide), fun x => ?_⟩
      refine w_astore_n d_L_work_12 (by decide) ?_
      refine w_iconst 1 d_L_work_13 (by decide) ?_
      exact w_iret d_L_work_14 rfl (⟨_, rfl, Or.inr (Or.inl ⟨rfl, hn, hO, h⟩), sameL_rf⟩)
    · -- case
      refine ⟨_, gHp2 (j := 0) rfl (gq rfl) (gqL rfl) (by decide) w_802 (by decide) (by decide) w_537 (by decide) (by decide), fun x => ?_⟩
      refine w_astore_n d_L_work_15 (by decide) ?_
      refine w_iconst 2 d_L_work_16 (by decide) ?_
      exact w_iret d_L_work_17 rfl (⟨_, rfl, Or.inr (Or.inr ⟨rfl, h1, h2, hO, h⟩), sameL_rf⟩)
theorem l_drop (hX : X.l.stackTraces = false) (h : cls X a c t k o l p d b r) (ok : okQ n t k o l p d b r) (hO : c 94 = aJ X 1 u) {x : Int32} : GW X a m_L_drop 8 131 1 6 0 (lv_args 0 [.ref (a 0), .int x, .ref (a 94)]) [] c (pI (fun w0 w => ((w0 = 0 ∧ ∃ j, (j < 9 ∧ x = nI j) ∧ outJ X w (if b.2.2.2 j = 0 then 0 else 1) ∧ cls X a w t k o l p d (drpB b j) r) ∨ (w0 = 1 ∧ ¬ ixI x ∧ w 94 = aJ X 1 u ∧ cls X a w t k o l p d b r)) ∧ sameL c w)) := by
  refine w_aload_n d_L_drop_0 rfl ?_
  refine w_iconst 0 d_L_drop_1 (by decide) ?_
  refine w_aload_n d_L_drop_2 rfl ?_
  refine w_iload_n d_L_drop_3 rfl ?_
  refine w_vIC [_] c_L_70 d_L_drop_4 rfl h.A (by decide) (a_drop hX h ok) (fun x w hw => ?_) (fun e w hw => ?_) rfl rfl (gq rfl) (gq rfl) (gq rfl) (gq rfl) (gq rfl) (gq rfl)
  · -- back
    obtain ⟨j, h1, rfl, hc, hs⟩ := hw
    refine w_if_eq 14 d_L_drop_7 (by decide) (fun h0 => ?_) (fun h0 => ?_)
    · -- taken
      have h0' : b.2.2.2 j = 0 := by simpa using bI_t.mp h0
      refine w_lconst 0 d_L_drop_14 (by decide) ?_
      refine w_last d_L_drop_15 ((hs 94 (by decide)).trans hO) (show (0 : Int32) = nI 0 from rfl) (by decide : 0 < 1) (by decide) (by decide) ?_
      refine w_goto 22 d_L_drop_16 (by decide) ?_
      refine w_iconst 0 d_L_drop_22 (by decide) ?_
      exact w_iret d_L_drop_23 rfl (⟨_, rfl, Or.inl ⟨rfl, j, h1, ⟨_, va_s, by rw [if_pos h0']; rfl⟩, hc.out⟩, sameL_u hs⟩)
    · -- not taken
      have h0' : ¬ b.2.2.2 j = 0 := by simpa using bI_n.mp h0
      refine w_lconst 1 d_L_drop_10 (by decide) ?_
      refine w_goto 15 d_L_drop_11 (by decide) ?_
      refine w_last d_L_drop_15 ((hs 94 (by decide)).trans hO) (show (0 : Int32) = nI 0 from rfl) (by decide : 0 < 1) (by decide) (by decide) ?_
      refine w_goto 22 d_L_drop_16 (by decide) ?_
      refine w_iconst 0 d_L_drop_22 (by decide) ?_
      exact w_iret d_L_drop_23 rfl (⟨_, rfl, Or.inl ⟨rfl, j, h1, ⟨_, va_s, by rw [if_neg h0']; rfl⟩, hc.out⟩, sameL_u hs⟩)
  · -- thrown
    obtain ⟨rfl, hn, rfl⟩ := hw
    refine ⟨_, gHp1 rfl (gq rfl) (gqL rfl) (by decide) w_662 (by decide), fun x => ?_⟩
    refine w_astore_n d_L_drop_19 (by decide) ?_
    refine w_iconst 1 d_L_drop_20 (by decide) ?_
    exact w_iret d_L_drop_21 rfl (⟨_, rfl, Or.inr ⟨rfl, hn, hO, h⟩, sameL_rf⟩)
end LX
