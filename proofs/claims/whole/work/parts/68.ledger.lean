/-! Constructors: Ledger and its eight shapes -/
def gr7 (X : gX) (A : Nat → Nat) : va_W := [(A 0, .inr (10, [.ref (A 1), .ref (A 5), .int 0])), (A 1, .inr (2, [.ref (A 2), .ref (A 3), .ref (A 4)])), (A 2, aI X 3 (fun _ => 0)), (A 3, aI X 3 (fun _ => 0)), (A 4, aI X 3 (fun _ => 0)), (A 5, .inr (4, [.ref (A 6), .int 0])), (A 6, aI X 9 (fun _ => 0))]
def shL (X : gX) (A : Nat → Nat → Nat) : Nat → va_W
  | 0 => []
  | n + 1 => shL X A n ++ gr7 X (A n)
theorem shL_congr {X : gX} {A B : Nat → Nat → Nat} : ∀ n, (∀ k, k < n → A k = B k) → shL X A n = shL X B n
  | 0, _ => rfl
  | n + 1, h => by
    show shL X A n ++ gr7 X (A n) = shL X B n ++ gr7 X (B n)
    rw [shL_congr n (fun k hk => h k (by omega)), h n (by omega)]
theorem g_ws {X : gX} {M : gM} {F L C S : Nat} {pc : Nat} {lv : List (Nat × Value)} {st : List Value} {ws ws' : va_W} {Post : gO → va_W → Prop} (h : ws = ws') (k : G X M F L C S pc lv st ws' Post) : G X M F L C S pc lv st ws Post := h ▸ k
section CD
variable {X : gX} {ws : va_W}
theorem i_DGo {i b q0 : Nat} (hi : i < ws.length) : ∀ (e j : Nat) (A : Nat → Nat → Nat) (f : Nat → Option Nat) (C S : Nat), j + e = 8 → 7 * e ≤ C → 26 * e ≤ S → (∀ k, k < j → f k = some (A k 0)) →
    G X m_D_init 3 60 C S 15 [(0, .ref b), (1, .int (nI j))] [] (ws.set i (b, .inr (6, [.ref q0, .int 0, .int 0])) ++ ((q0, aQ X f) :: shL X A j)) (pV (fun w => ∃ (A : Nat → Nat → Nat) (f : Nat → Option Nat), (∀ k, k < 8 → f k = some (A k 0)) ∧ w = ws.set i (b, .inr (6, [.ref q0, .int 0, .int 0])) ++ ((q0, aQ X f) :: shL X A 8))) := by
  intro e
  induction e with
  | zero =>
    intro j A f C S hj hC hS hf
    obtain rfl : j = 8 := by omega
    refine g_iload_n d_D_init_15 rfl ?_
    refine g_bipush 8 d_D_init_16 (by decide) ?_
    refine g_icmp_ge 40 d_D_init_18 (by decide) (fun _ => ?_) (fun hn => absurd ((nI_leI (a := 8) (b := 8) (by decide) (by decide)).mpr (by decide)) hn)
    exact g_vret d_D_init_40 rfl ⟨rfl, A, f, hf, rfl⟩
  | succ e ih =>
    intro j A f C S hj hC hS hf
    refine g_iload_n d_D_init_15 rfl ?_
    refine g_bipush 8 d_D_init_16 (by decide) ?_
    refine g_icmp_ge 40 d_D_init_18 (by decide) (fun z => absurd ((nI_leI (a := 8) (b := j) (by decide) (by omega)).mp z) (by omega)) (fun _ => ?_)
    refine g_aload_n d_D_init_21 rfl ?_
    refine g_getf g_D_11 d_D_init_22 (ge1 hi) rfl ?_
    refine g_iload_n d_D_init_25 rfl ?_
    refine g_new (ci := 10) (fs := [.null, .null, .int 0]) rfl w_165 w_167 w_10 ws_H ty_H tyok_H (by decide) d_D_init_26 (by omega) (by omega) (fun q => ?_)
    refine g_dup d_D_init_29 rfl ?_
    refine g_iV [] c_D_15 d_D_init_30 (i_H geE) (fun w hw => ?_) rfl rfl (gq rfl) (gq rfl) (gq rfl) (gq rfl) (by omega) (by omega)
    obtain ⟨p1, p2, p3, p4, p5, p6, rfl⟩ := hw
    rw [stE]
    have hp : (ws.set i (b, .inr (6, [.ref q0, .int 0, .int 0])) ++ ((q0, aQ X f) :: shL X A j))[ws.length]? = some (q0, aQ X f) := by
      rw [List.getElem?_append_right (by rw [List.length_set]; exact Nat.le_refl _), List.length_set, Nat.sub_self]; rfl
    have hs : ∀ y : Nat × va_E, (ws.set i (b, .inr (6, [.ref q0, .int 0, .int 0])) ++ ((q0, aQ X f) :: shL X A j)).set ws.length y = ws.set i (b, .inr (6, [.ref q0, .int 0, .int 0])) ++ (y :: shL X A j) := fun y => by
      rw [List.set_append_right _ _ (by rw [List.length_set]; exact Nat.le_refl _), List.length_set, Nat.sub_self]; rfl
    refine g_aast (j := j) d_D_init_33 (ge0 (ge0 hp)) (ge0 geE) rfl rfl rfl (by omega) (by decide) ?_
    rw [st0 (lt_of (ge0 hp)), st0 (lt_of hp), hs]
    obtain ⟨A', hA1, hA2⟩ : ∃ A' : Nat → Nat → Nat, (∀ k, k ≠ j → A' k = A k) ∧ A' j = (fun m => [q, p1, p2, p3, p4, p5, p6].getD m 0) := ⟨fun k => if k = j then (fun m => [q, p1, p2, p3, p4, p5, p6].getD m 0) else A k, fun k hk => if_neg hk, if_pos rfl⟩
    have e1 : shL X A' (j + 1) = shL X A j ++ ([(q, .inr (10, [.ref p1, .ref p5, .int 0]))] ++ [(p1, .inr (2, [.ref p2, .ref p3, .ref p4])), (p2, aI X 3 (fun _ => 0)), (p3, aI X 3 (fun _ => 0)), (p4, aI X 3 (fun _ => 0)), (p5, .inr (4, [.ref p6, .int 0])), (p6, aI X 9 (fun _ => 0))]) := by
      show shL X A' j ++ gr7 X (A' j) = _
      rw [shL_congr (B := A) j (fun k hk => hA1 k (by omega)), hA2]
      rfl
    rw [List.append_assoc, List.append_assoc, List.cons_append, ← e1]
    refine g_iinc _ d_D_init_34 rfl (nIinc _) (by decide) ?_
    refine g_goto 15 d_D_init_37 (by decide) ?_
    refine ih (j + 1) A' (va_up f j (some q)) _ _ (by omega) (by omega) (by omega) (fun k hk => ?_)
    by_cases e2 : k = j
    · subst e2
      rw [hA2]
      exact va_s
    · rw [hA1 k e2]
      exact va_n e2 (hf k (by omega))
theorem i_D {i b : Nat} (h : ws[i]? = some (b, .inr (6, [.null, .int 0, .int 0]))) : G X m_D_init 3 60 57 216 0 (lv_args 0 [.ref b]) [] ws (pV (fun w => ∃ (q0 : Nat) (A : Nat → Nat → Nat) (f : Nat → Option Nat), (∀ k, k < 8 → f k = some (A k 0)) ∧ w = ws.set i (b, .inr (6, [.ref q0, .int 0, .int 0])) ++ ((q0, aQ X f) :: shL X A 8))) := by
  refine g_aload_n d_D_init_0 rfl ?_
  refine g_obj w_164 w_28 w_29 d_D_init_1 (gq rfl) (gq rfl) (gq rfl) ?_
  refine g_aload_n d_D_init_4 rfl ?_
  refine g_bipush 8 d_D_init_5 (by decide) ?_
  refine g_newQ (j := 8) w_165 d_D_init_7 rfl (gq rfl) (gq rfl) (gq rfl) (fun q0 => ?_)
  refine g_putF p_D_11 rfl d_D_init_10 (ge0 h) rfl rfl (gq rfl) ?_
  rw [st0 (lt_of h)]
  refine g_iconst 0 d_D_init_13 (by decide) ?_
  refine g_istore_n d_D_init_14 (by decide) ?_
  refine g_post (fun r w hw => ?_) (i_DGo (q0 := q0) (lt_of h) 8 0 (fun _ _ => 0) (fun _ => none) _ _ rfl (by decide) (by decide) (fun k hk => absurd hk (by omega)))
  obtain ⟨e0, A, f, e1, e2⟩ := hw
  exact ⟨e0, q0, A, f, e1, e2⟩
end CD
