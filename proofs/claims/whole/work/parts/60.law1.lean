/-! The law's wrappers: a call of the class, its exception caught -/
abbrev aJ (X : gX) (n : Nat) (f : Nat → Int64) : va_E := .inl (X.cJ, n, .inr (.inl f))
-- the class's places and the answer's have changed, no more
def sameL (c w : Nat → va_E) : Prop := ∀ p, 78 < p → p ≠ 94 → w p = c p
theorem sameL_a {c w : Nat → va_E} (h : sameA c w) : sameL c w := fun p h1 _ => h p h1
theorem sameL_rf {c : Nat → va_E} : sameL c c := fun _ _ _ => rfl
theorem sameL_u {c w : Nat → va_E} {e : va_E} (h : sameA c w) : sameL c (va_up w 94 e) := fun p h1 h2 => (va_n h2 rfl).trans (h p h1)
section LW
variable {X : gX} {a : Nat → Nat} {c : Nat → va_E} {t : QT} {k : QC} {o : QO} {l : QL} {p : QP} {d : QD} {b : QB} {r : List Nat} {n : Nat} {u : Nat → Int64}
theorem cls.out (h : cls X a c t k o l p d b r) {e : va_E} : cls X a (va_up c 94 e) t k o l p d b r := h.keep (fun q hq => va_n (by omega) rfl)
theorem l_delete (hX : X.l.stackTraces = false) (h : cls X a c t k o l p d b r) (ok : okQ n t k o l p d b r) {x : Int32} : GW X a m_L_delete 8 132 1 6 0 (lv_args 0 [.ref (a 0), .int x]) [] c (pI (fun v w => ((v = 0 ∧ ∃ j, j < t.1 ∧ x = nI j ∧ ¬ t.2.2 j = 0 ∧ cls X a w (delT t j) k o l p (ntD d) (ntB b j) r) ∨ (v = 1 ∧ ¬ rwI t x ∧ cls X a w t k o l p d b r)) ∧ sameA c w)) := by
  refine w_aload_n d_L_delete_0 rfl ?_
  refine w_iload_n d_L_delete_1 rfl ?_
  refine w_vVC [_] c_L_17 d_L_delete_2 rfl h.A (by decide) (a_delete hX h ok) (fun w hw => ?_) (fun e w hw => ?_) rfl rfl (gq rfl) (gq rfl) (gq rfl) (gq rfl) (gq rfl) (gq rfl)
  · -- back
    obtain ⟨j, j1, j2, j3, hc, hs⟩ := hw
    refine w_goto 11 d_L_delete_5 (by decide) ?_
    refine w_iconst 0 d_L_delete_11 (by decide) ?_
    exact w_iret d_L_delete_12 rfl (⟨_, rfl, Or.inl ⟨rfl, j, j1, j2, j3, hc⟩, hs⟩)
  · -- thrown
    obtain ⟨rfl, hn, rfl⟩ := hw
    refine ⟨_, gHp1 rfl (gq rfl) (gqL rfl) (by decide) w_662 (by decide), fun x => ?_⟩
    refine w_astore_n d_L_delete_8 (by decide) ?_
    refine w_iconst 1 d_L_delete_9 (by decide) ?_
    exact w_iret d_L_delete_10 rfl (⟨_, rfl, Or.inr ⟨rfl, hn, h⟩, sameA_rf⟩)
theorem l_insert (hX : X.l.stackTraces = false) (h : cls X a c t k o l p d b r) (ok : okQ n t k o l p d b r) (hO : c 94 = aJ X 1 u) {x y z : Int32} : GW X a m_L_insert 8 134 4 24 0 (lv_args 0 [.ref (a 0), .int x, .int y, .int z, .ref (a 94)]) [] c (pI (fun v w => ((v = 0 ∧ (isV x ∧ isV y ∧ isV z) ∧ t.1 < 64 ∧ (∃ u', w 94 = aJ X 1 u' ∧ u' 0 = (nI t.1).toInt64) ∧ cls X a w (insT t x y z) k o l p (ntD d) (ntB b t.1) r) ∨ (v = 1 ∧ ¬ (isV x ∧ isV y ∧ isV z) ∧ w 94 = aJ X 1 u ∧ cls X a w t k o l p d b r) ∨ (v = 2 ∧ (isV x ∧ isV y ∧ isV z) ∧ t.1 = 64 ∧ w 94 = aJ X 1 u ∧ cls X a w t k o l p d b r)) ∧ sameL c w)) := by
  refine w_aload d_L_insert_0 rfl ?_
  refine w_iconst 0 d_L_insert_2 (by decide) ?_
  refine w_aload_n d_L_insert_3 rfl ?_
  refine w_iload_n d_L_insert_4 rfl ?_
  refine w_iload_n d_L_insert_5 rfl ?_
  refine w_iload_n d_L_insert_6 rfl ?_
  refine w_vIC [_, _, _] c_L_7 d_L_insert_7 rfl h.A (by decide) (a_insert hX h ok) (fun x w hw => ?_) (fun e w hw => ?_) rfl rfl (gq rfl) (gq rfl) (gq rfl) (gq rfl) (gq rfl) (gq rfl)
  · -- back
    obtain ⟨h1, h2, rfl, hc, hs⟩ := hw
    refine w_i2l d_L_insert_10 ?_
    refine w_last d_L_insert_11 ((hs 94 (by decide)).trans hO) (show (0 : Int32) = nI 0 from rfl) (by decide : 0 < 1) (by decide) (by decide) ?_
    refine w_goto 23 d_L_insert_12 (by decide) ?_
    refine w_iconst 0 d_L_insert_23 (by decide) ?_
    exact w_iret d_L_insert_24 rfl (⟨_, rfl, Or.inl ⟨rfl, h1, h2, ⟨_, va_s, rfl⟩, hc.out⟩, sameL_u hs⟩)
  · -- thrown
    obtain ⟨hk, rfl⟩ := hw
    rcases hk with ⟨rfl, hn⟩ | ⟨rfl, hv, h64⟩
    · -- case
      refine ⟨_, gHp1 rfl (gq rfl) (gqL rfl) (by decide) w_537 (by decide), fun x => ?_⟩
      refine w_astore d_L_insert_15 (by decide) ?_
      refine w_iconst 1 d_L_insert_17 (by decide) ?_
      exact w_iret d_L_insert_18 rfl (⟨_, rfl, Or.inr (Or.inl ⟨rfl, hn, hO, h⟩), sameL_rf⟩)
    · -- case
      refine ⟨_, gHp2 (j := 0) rfl (gq rfl) (gqL rfl) (by decide) w_538 (by decide) (by decide) w_537 (by decide) (by decide), fun x => ?_⟩
      refine w_astore d_L_insert_19 (by decide) ?_
      refine w_iconst 2 d_L_insert_21 (by decide) ?_
      exact w_iret d_L_insert_22 rfl (⟨_, rfl, Or.inr (Or.inr ⟨rfl, hv, h64, hO, h⟩), sameL_rf⟩)
end LW
