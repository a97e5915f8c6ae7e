/-! Builder -/
abbrev oB (a : Nat → Nat) (bl : Option Nat) (hd sd : Nat) : va_E := .inr (8, [.ref (a 1), .ref (a 76), .int (oI bl), .int (nI hd), .int (nI sd)])
-- the set of the ready indexes among the first k
def rdyN (s : Nat → Int32) : Nat → Nat
  | 0 => 0
  | k + 1 => if s k = 2 then rdyN s k + 2 ^ k else rdyN s k
theorem rdyN_lt (s : Nat → Int32) : ∀ k, rdyN s k < 2 ^ k
  | 0 => by simp [rdyN]
  | k + 1 => by
    have := rdyN_lt s k
    unfold rdyN
    rw [Nat.pow_succ]
    split <;> omega
theorem rdyN_512 (s : Nat → Int32) : rdyN s 9 < 512 := rdyN_lt s 9
theorem or_ok : ∀ k, k < 9 → ∀ m, m < 2 ^ k → nI m ||| ((1 : Int32) <<< (nI k &&& 31)) = nI (m + 2 ^ k) := by decide +kernel
theorem rdyN_bit (s : Nat → Int32) : ∀ k i, bit (rdyN s k) i = true ↔ i < k ∧ s i = 2
  | 0, i => by simp [rdyN, bit]
  | k + 1, i => by
    have ih := rdyN_bit s k i
    have hlt := rdyN_lt s k
    have tb : ∀ n, bit n i = n.testBit i := fun n => by rw [Nat.testBit_eq_decide_div_mod_eq, bit]
    rw [tb] at ih ⊢
    by_cases h2 : s k = 2
    · rw [rdyN, if_pos h2]
      by_cases hik : i = k
      · subst hik
        rw [Nat.add_comm, Nat.testBit_two_pow_add_eq]
        have : (rdyN s i).testBit i = false := Nat.testBit_lt_two_pow hlt
        rw [this]
        simp [h2]
      · by_cases hl : i < k
        · rw [Nat.add_comm, Nat.testBit_two_pow_add_gt hl, ih]
          simp [hl]; omega
        · have h3 : rdyN s k + 2 ^ k < 2 ^ i := Nat.lt_of_lt_of_le (by rw [Nat.pow_succ]; omega) (Nat.pow_le_pow_right (by decide) (show k + 1 ≤ i by omega))
          rw [Nat.testBit_lt_two_pow h3]
          constructor
          · intro z; cases z
          · rintro ⟨z, -⟩; omega
    · rw [rdyN, if_neg h2, ih]
      constructor
      · rintro ⟨z, w⟩; exact ⟨by omega, w⟩
      · rintro ⟨z, w⟩
        refine ⟨?_, w⟩
        have : i ≠ k := fun e => h2 (e ▸ w)
        omega
theorem oI_n {o : Option Nat} (h : ∀ j, o = some j → j < 100) : oI o = -1 ↔ o = none := by
  cases o with
  | none => exact ⟨fun _ => rfl, fun _ => rfl⟩
  | some j => exact ⟨fun z => absurd z (nI_neg (by have := h j rfl; omega)), fun z => by cases z⟩
section BD
variable {X : gX} {a : Nat → Nat} {c : Nat → va_E} {ins rt : Nat} {s : Nat → Int32} {bl : Option Nat} {hd sd : Nat}
theorem b_isBusy (hB : c 75 = oB a bl hd sd) (hbl : ∀ j, bl = some j → j < 9) : GW X a m_B_isBusy 0 0 0 0 0 (lv_args 0 [.ref (a 75)]) [] c (pI (eI (bI bl.isSome) c)) := by
  refine w_aload_n d_B_isBusy_0 rfl ?_
  refine w_getf g_B_19 d_B_isBusy_1 hB rfl (by decide) ?_
  refine w_iconst (-1) d_B_isBusy_4 (by decide) ?_
  refine w_icmp_eq 12 d_B_isBusy_5 (by decide) (fun hz => ?_) (fun hz => ?_)
  · -- taken
    have e := (oI_n (fun j hj => by have := hbl j hj; omega)).mp hz
    refine w_iconst 0 d_B_isBusy_12 (by decide) ?_
    exact w_zret (by first | exact Or.inl rfl | exact Or.inr rfl) d_B_isBusy_13 rfl (⟨_, rfl, by rw [e]; rfl, rfl⟩)
  · -- not taken
    have e : bl.isSome = true := by cases bl with | none => exact absurd rfl hz | some j => rfl
    refine w_iconst 1 d_B_isBusy_8 (by decide) ?_
    refine w_goto 13 d_B_isBusy_9 (by decide) ?_
    exact w_zret (by first | exact Or.inl rfl | exact Or.inr rfl) d_B_isBusy_13 rfl (⟨_, rfl, by rw [e]; rfl, rfl⟩)
theorem b_rdGo (hB : c 75 = oB a bl hd sd) (hS : c 76 = aI X 9 s) : ∀ (d k : Nat), k + d = 9 → GW X a m_B_readySet 0 0 0 0 4 [(0, .ref (a 75)), (1, .int (nI (rdyN s k))), (2, .int (nI k))] [] c (pI (eI (nI (rdyN s 9)) c)) := by
  intro d
  induction d with
  | zero =>
    intro k hk
    have e : k = 9 := by omega
    subst e
    refine w_iload_n d_B_readySet_4 rfl ?_
    refine w_bipush 9 d_B_readySet_5 (by decide) ?_
    refine w_icmp_ge 32 d_B_readySet_7 (by decide) (fun _ => ?_) (fun hn => absurd ((nI_leI (a := 9) (b := 9) (by decide) (by decide)).mpr (by omega)) hn)
    refine w_iload_n d_B_readySet_32 rfl ?_
    exact w_iret d_B_readySet_33 rfl (⟨_, rfl, rfl, rfl⟩)
  | succ d ih =>
    intro k hk
    have hk9 : k < 9 := by omega
    have key := ih (k + 1) (by omega)
    refine w_iload_n d_B_readySet_4 rfl ?_
    refine w_bipush 9 d_B_readySet_5 (by decide) ?_
    refine w_icmp_ge 32 d_B_readySet_7 (by decide) (fun hn => absurd hn (fun z => absurd ((nI_leI (a := 9) (by decide) (by omega)).mp z) (by omega))) (fun _ => ?_)
    refine w_aload_n d_B_readySet_10 rfl ?_
    refine w_getf g_B_9 d_B_readySet_11 hB rfl (by decide) ?_
    refine w_iload_n d_B_readySet_14 rfl ?_
    refine w_iald d_B_readySet_15 hS rfl hk9 (by decide) (by decide) ?_
    refine w_iconst 2 d_B_readySet_16 (by decide) ?_
    refine w_icmp_ne 26 d_B_readySet_17 (by decide) (fun hz => ?_) (fun hz => ?_)
    · -- taken
      rw [rdyN, if_neg hz] at key
      first | refine w_iinc _ d_B_readySet_26 rfl (nIinc _) (by decide) ?_ | refine w_iinc _ d_B_readySet_26 rfl rfl (by decide) ?_
      refine w_goto 4 d_B_readySet_29 (by decide) ?_
      exact key
    · -- not taken
      rw [rdyN, if_pos hz] at key
      refine w_iload_n d_B_readySet_20 rfl ?_
      refine w_iconst 1 d_B_readySet_21 (by decide) ?_
      refine w_iload_n d_B_readySet_22 rfl ?_
      refine w_ishl d_B_readySet_23 ?_
      refine w_ior d_B_readySet_24 ?_
      rw [or_ok k hk9 _ (rdyN_lt s k)]
      refine w_istore_n d_B_readySet_25 (by decide) ?_
      first | refine w_iinc _ d_B_readySet_26 rfl (nIinc _) (by decide) ?_ | refine w_iinc _ d_B_readySet_26 rfl rfl (by decide) ?_
      refine w_goto 4 d_B_readySet_29 (by decide) ?_
      exact key
theorem b_readySet (hB : c 75 = oB a bl hd sd) (hS : c 76 = aI X 9 s) : GW X a m_B_readySet 0 0 0 0 0 (lv_args 0 [.ref (a 75)]) [] c (pI (eI (nI (rdyN s 9)) c)) := by
  refine w_iconst 0 d_B_readySet_0 (by decide) ?_
  refine w_istore_n d_B_readySet_1 (by decide) ?_
  refine w_iconst 0 d_B_readySet_2 (by decide) ?_
  refine w_istore_n d_B_readySet_3 (by decide) ?_
  exact b_rdGo hB hS 9 0 rfl
theorem b_left (hB : c 75 = oB a bl hd sd) (hT : c 1 = oT a ins rt) (hh : hd ≤ ins) : GW X a m_B_left 0 0 0 0 0 (lv_args 0 [.ref (a 75)]) [] c (pI (eI (nI (ins - hd + sd)) c)) := by
  refine w_aload_n d_B_left_0 rfl ?_
  refine w_getf g_B_15 d_B_left_1 hB rfl (by decide) ?_
  refine w_getf g_B_36 d_B_left_4 hT rfl (by decide) ?_
  refine w_aload_n d_B_left_7 rfl ?_
  refine w_getf g_B_23 d_B_left_8 hB rfl (by decide) ?_
  refine w_isub d_B_left_11 ?_
  rw [pk_sub hh]
  refine w_aload_n d_B_left_12 rfl ?_
  refine w_getf g_B_26 d_B_left_13 hB rfl (by decide) ?_
  refine w_iadd d_B_left_16 ?_
  rw [nI_add]
  exact w_iret d_B_left_17 rfl (⟨_, rfl, rfl, rfl⟩)
-- when nothing is left the index that is building is ready
def finS (s : Nat → Int32) (bl : Option Nat) (left : Nat) : Nat → Int32 := if left = 0 then match bl with
  | none => s
  | some j => upd s j 2 else s
def finB (bl : Option Nat) (left : Nat) : Option Nat := if left = 0 then none else bl
theorem b_finish (hB : c 75 = oB a bl hd sd) (hS : c 76 = aI X 9 s) (hT : c 1 = oT a ins rt) (hh : hd ≤ ins) (hi : ins ≤ 64) (hsd : sd < 1000) (hbl : ∀ j, bl = some j → j < 9) :
    GW X a m_B_finishIfDone 1 20 0 0 0 (lv_args 0 [.ref (a 75)]) [] c (pV (fun w => w 75 = oB a (finB bl (ins - hd + sd)) hd sd ∧ w 76 = aI X 9 (finS s bl (ins - hd + sd)) ∧ same c w [75, 76])) := by
  cases bl with
  | none =>
    refine w_aload_n d_B_finishIfDone_0 rfl ?_
    refine w_vI [] c_B_32 d_B_finishIfDone_1 rfl hB (by decide) (b_isBusy hB hbl) (fun x w hw => ?_) rfl rfl (gq rfl) (gq rfl) (gq rfl) (gq rfl) (gq rfl) (gq rfl)
    obtain ⟨rfl, rfl⟩ := hw
    refine w_if_eq 29 d_B_finishIfDone_4 (by decide) (fun _ => ?_) (fun hn => absurd (rfl) hn)
    exact w_vret d_B_finishIfDone_29 rfl (⟨rfl, by unfold finB; split <;> exact hB, by unfold finS; split <;> exact hS, same_rf⟩)
  | some j =>
    have hj := hbl j rfl
    refine w_aload_n d_B_finishIfDone_0 rfl ?_
    refine w_vI [] c_B_32 d_B_finishIfDone_1 rfl hB (by decide) (b_isBusy hB hbl) (fun x w hw => ?_) rfl rfl (gq rfl) (gq rfl) (gq rfl) (gq rfl) (gq rfl) (gq rfl)
    obtain ⟨rfl, rfl⟩ := hw
    refine w_if_eq 29 d_B_finishIfDone_4 (by decide) (fun hn => absurd hn ((show ¬ (1 : Int32) = 0 by decide))) (fun _ => ?_)
    refine w_aload_n d_B_finishIfDone_7 rfl ?_
    refine w_vI [] c_B_47 d_B_finishIfDone_8 rfl hB (by decide) (b_left hB hT hh) (fun x w hw => ?_) rfl rfl (gq rfl) (gq rfl) (gq rfl) (gq rfl) (gq rfl) (gq rfl)
    obtain ⟨rfl, rfl⟩ := hw
    refine w_if_ne 29 d_B_finishIfDone_11 (by decide) (fun hz => ?_) (fun hz => ?_)
    · -- taken
      have hn : ¬ ins - hd + sd = 0 := fun z => hz (by rw [z]; rfl)
      exact w_vret d_B_finishIfDone_29 rfl (⟨rfl, by unfold finB; rw [if_neg hn]; exact hB, by unfold finS; rw [if_neg hn]; exact hS, same_rf⟩)
    · -- not taken
      have hn : ins - hd + sd = 0 := (nI_eq (by omega) (by decide)).mp hz
      refine w_aload_n d_B_finishIfDone_14 rfl ?_
      refine w_getf g_B_9 d_B_finishIfDone_15 hB rfl (by decide) ?_
      refine w_aload_n d_B_finishIfDone_18 rfl ?_
      refine w_getf g_B_19 d_B_finishIfDone_19 hB rfl (by decide) ?_
      refine w_iconst 2 d_B_finishIfDone_22 (by decide) ?_
      refine w_iast d_B_finishIfDone_23 hS rfl hj (by decide) (by decide) ?_
      refine w_aload_n d_B_finishIfDone_24 rfl ?_
      refine w_iconst (-1) d_B_finishIfDone_25 (by decide) ?_
      refine w_putf p_B_19 d_B_finishIfDone_26 hB rfl rfl (gqL rfl) (by decide) ?_
      exact w_vret d_B_finishIfDone_29 rfl (⟨rfl, by unfold finB; rw [if_pos hn]; rfl, by unfold finS; rw [if_pos hn]; rfl, same_trans (same_up (by simp)) (same_up (by simp))⟩)
theorem b_begin {j : Nat} (hB : c 75 = oB a bl hd sd) (hS : c 76 = aI X 9 s) (hT : c 1 = oT a ins rt) (hi : ins ≤ 64) (hj : j < 9) :
    GW X a m_B_begin 2 40 0 0 0 (lv_args 0 [.ref (a 75), .int (nI j)]) [] c (pV (fun w => w 75 = oB a (finB (some j) ins) 0 0 ∧ w 76 = aI X 9 (finS (upd s j 1) (some j) ins) ∧ same c w [75, 76])) := by
  refine w_aload_n d_B_begin_0 rfl ?_
  refine w_getf g_B_9 d_B_begin_1 hB rfl (by decide) ?_
  refine w_iload_n d_B_begin_4 rfl ?_
  refine w_iconst 1 d_B_begin_5 (by decide) ?_
  refine w_iast d_B_begin_6 hS rfl hj (by decide) (by decide) ?_
  refine w_aload_n d_B_begin_7 rfl ?_
  refine w_iload_n d_B_begin_8 rfl ?_
  refine w_putf p_B_19 d_B_begin_9 hB rfl rfl (gqL rfl) (by decide) ?_
  refine w_aload_n d_B_begin_12 rfl ?_
  refine w_iconst 0 d_B_begin_13 (by decide) ?_
  refine w_putf p_B_23 d_B_begin_14 rfl rfl rfl (gqL rfl) (by decide) ?_
  refine w_aload_n d_B_begin_17 rfl ?_
  refine w_iconst 0 d_B_begin_18 (by decide) ?_
  refine w_putf p_B_26 d_B_begin_19 rfl rfl rfl (gqL rfl) (by decide) ?_
  refine w_aload_n d_B_begin_22 rfl ?_
  refine w_vV [] c_B_29 d_B_begin_23 rfl rfl (by decide) (b_finish (bl := some j) (hd := 0) (sd := 0) (s := upd s j 1) rfl rfl hT (by omega) hi (by omega) (fun k hk => by cases hk; exact hj)) (fun w hw => ?_) rfl rfl (gq rfl) (gq rfl) (gq rfl) (gq rfl) (gq rfl) (gq rfl)
  obtain ⟨h1, h2, h3⟩ := hw
  exact w_vret d_B_begin_26 rfl (⟨rfl, h1, h2, same_trans (same_trans (same_trans (same_trans (same_up (by simp)) (same_up (by simp))) (same_up (by simp))) (same_up (by simp))) h3⟩)
theorem b_noteChange {r : Nat} (hB : c 75 = oB a bl hd sd) (hr : r < 64) (hh : hd ≤ 64) (hbl : ∀ j, bl = some j → j < 9) :
    GW X a m_B_noteChange 1 20 0 0 0 (lv_args 0 [.ref (a 75), .int (nI r)]) [] c (pV (fun w => w 75 = oB a bl hd (if bl.isSome = true ∧ r < hd then sd + 1 else sd) ∧ same c w [75])) := by
  refine w_aload_n d_B_noteChange_0 rfl ?_
  refine w_vI [] c_B_32 d_B_noteChange_1 rfl hB (by decide) (b_isBusy hB hbl) (fun x w hw => ?_) rfl rfl (gq rfl) (gq rfl) (gq rfl) (gq rfl) (gq rfl) (gq rfl)
  obtain ⟨rfl, rfl⟩ := hw
  refine w_if_eq 25 d_B_noteChange_4 (by decide) (fun hz => ?_) (fun hz => ?_)
  · -- taken
    have hz' := bI_t.mp hz
    exact w_vret d_B_noteChange_25 rfl (⟨rfl, by rw [if_neg (fun z => by rw [hz'] at z; cases z.1)]; exact hB, same_rf⟩)
  · -- not taken
    have hz' := bI_n.mp hz
    refine w_iload_n d_B_noteChange_7 rfl ?_
    refine w_aload_n d_B_noteChange_8 rfl ?_
    refine w_getf g_B_23 d_B_noteChange_9 hB rfl (by decide) ?_
    refine w_icmp_ge 25 d_B_noteChange_12 (by decide) (fun hl => ?_) (fun hl => ?_)
    · -- taken
      have hl' : hd ≤ r := (nI_leI (by omega) (by omega)).mp hl
      exact w_vret d_B_noteChange_25 rfl (⟨rfl, by rw [if_neg (fun z => by omega)]; exact hB, same_rf⟩)
    · -- not taken
      have hl' : r < hd := Nat.not_le.mp (fun z => hl ((nI_leI (by omega) (by omega)).mpr z))
      refine w_aload_n d_B_noteChange_15 rfl ?_
      refine w_dup d_B_noteChange_16 rfl ?_
      refine w_getf g_B_26 d_B_noteChange_17 hB rfl (by decide) ?_
      refine w_iconst 1 d_B_noteChange_20 (by decide) ?_
      refine w_iadd d_B_noteChange_21 ?_
      rw [nI_1]
      refine w_putf p_B_26 d_B_noteChange_22 hB rfl rfl (gqL rfl) (by decide) ?_
      exact w_vret d_B_noteChange_25 rfl (⟨rfl, by rw [if_pos ⟨hz', hl'⟩]; rfl, same_up (by simp)⟩)
theorem minN {x y : Nat} (hx : x < 2 ^ 31) (hy : y < 2 ^ 31) : (if nI y < nI x then nI y else nI x) = nI (min x y) := by
  by_cases h : y < x
  · rw [if_pos (nI_lt h hx), Nat.min_eq_right (by omega)]
  · rw [if_neg (nI_nlt (by omega) (by omega)), Nat.min_eq_left (by omega)]
theorem b_handle {n : Nat} (hB : c 75 = oB a bl hd sd) (hS : c 76 = aI X 9 s) (hT : c 1 = oT a ins rt) (hh : hd ≤ ins) (hi : ins ≤ 64) (hsd : sd < 1000) (hn : n ≤ 64) (hbl : ∀ j, bl = some j → j < 9) :
    GW X a m_B_handle 2 40 0 0 0 (lv_args 0 [.ref (a 75), .int (nI n)]) [] c (pI (fun x w => x = nI (ins - (hd + min n (ins - hd)) + (sd - min (n - min n (ins - hd)) sd)) ∧ w 75 = oB a (finB bl (ins - (hd + min n (ins - hd)) + (sd - min (n - min n (ins - hd)) sd))) (hd + min n (ins - hd)) (sd - min (n - min n (ins - hd)) sd) ∧ w 76 = aI X 9 (finS s bl (ins - (hd + min n (ins - hd)) + (sd - min (n - min n (ins - hd)) sd))) ∧ same c w [75, 76])) := by
  refine w_iload_n d_B_handle_0 rfl ?_
  refine w_aload_n d_B_handle_1 rfl ?_
  refine w_getf g_B_15 d_B_handle_2 hB rfl (by decide) ?_
  refine w_getf g_B_36 d_B_handle_5 hT rfl (by decide) ?_
  refine w_aload_n d_B_handle_8 rfl ?_
  refine w_getf g_B_23 d_B_handle_9 hB rfl (by decide) ?_
  refine w_isub d_B_handle_12 ?_
  rw [pk_sub hh]
  refine w_mmin w_849 d_B_handle_13 (gq rfl) (gq rfl) ?_
  rw [minN (by omega) (by omega)]
  refine w_istore_n d_B_handle_16 (by decide) ?_
  refine w_aload_n d_B_handle_17 rfl ?_
  refine w_dup d_B_handle_18 rfl ?_
  refine w_getf g_B_23 d_B_handle_19 hB rfl (by decide) ?_
  refine w_iload_n d_B_handle_22 rfl ?_
  refine w_iadd d_B_handle_23 ?_
  rw [nI_add]
  refine w_putf p_B_23 d_B_handle_24 hB rfl rfl (gqL rfl) (by decide) ?_
  refine w_aload_n d_B_handle_27 rfl ?_
  refine w_dup d_B_handle_28 rfl ?_
  refine w_getf g_B_26 d_B_handle_29 rfl rfl (by decide) ?_
  refine w_iload_n d_B_handle_32 rfl ?_
  refine w_iload_n d_B_handle_33 rfl ?_
  refine w_isub d_B_handle_34 ?_
  rw [pk_sub (by omega)]
  refine w_aload_n d_B_handle_35 rfl ?_
  refine w_getf g_B_26 d_B_handle_36 rfl rfl (by decide) ?_
  refine w_mmin w_849 d_B_handle_39 (gq rfl) (gq rfl) ?_
  rw [minN (by omega) (by omega)]
  refine w_isub d_B_handle_42 ?_
  rw [pk_sub (by omega)]
  refine w_putf p_B_26 d_B_handle_43 rfl rfl rfl (gqL rfl) (by decide) ?_
  refine w_aload_n d_B_handle_46 rfl ?_
  refine w_vV [] c_B_29 d_B_handle_47 rfl rfl (by decide) (b_finish (bl := bl) (hd := hd + min n (ins - hd)) (sd := sd - min (n - min n (ins - hd)) sd) rfl hS hT (by omega) hi (by omega) hbl) (fun w hw => ?_) rfl rfl (gq rfl) (gq rfl) (gq rfl) (gq rfl) (gq rfl) (gq rfl)
  obtain ⟨h1, h2, h3⟩ := hw
  refine w_aload_n d_B_handle_50 rfl ?_
  refine w_vI [] c_B_47 d_B_handle_51 rfl h1 (by decide) (b_left h1 ((h3 1 (by decide)).trans hT) (by omega)) (fun x w hw => ?_) rfl rfl (gq rfl) (gq rfl) (gq rfl) (gq rfl) (gq rfl) (gq rfl)
  obtain ⟨rfl, rfl⟩ := hw
  exact w_iret d_B_handle_54 rfl (⟨_, rfl, rfl, h1, h2, same_trans (same_trans (same_up (by simp)) (same_up (by simp))) h3⟩)
theorem b_discard {j : Nat} (hB : c 75 = oB a bl hd sd) (hS : c 76 = aI X 9 s) (hj : j < 9) (hbl : ∀ j, bl = some j → j < 9) :
    GW X a m_B_discard 0 0 0 0 0 (lv_args 0 [.ref (a 75), .int (nI j)]) [] c (pI (fun x w => x = bI (decide (¬ s j = 0)) ∧ w 75 = oB a (if bl = some j then none else bl) hd sd ∧ w 76 = aI X 9 (upd s j 0) ∧ same c w [75, 76])) := by
  have key : ∀ x : Int32, (x = 0 ∨ x = 1) → GW X a m_B_discard 0 0 0 0 14 [(0, .ref (a 75)), (1, .int (nI j))] [.int x] c (pI (fun y w => y = x ∧ w 75 = oB a (if bl = some j then none else bl) hd sd ∧ w 76 = aI X 9 (upd s j 0) ∧ same c w [75, 76])) := by
    intro x hx
    refine w_istore_n d_B_discard_14 (by decide) ?_
    refine w_aload_n d_B_discard_15 rfl ?_
    refine w_getf g_B_9 d_B_discard_16 hB rfl (by decide) ?_
    refine w_iload_n d_B_discard_19 rfl ?_
    refine w_iconst 0 d_B_discard_20 (by decide) ?_
    refine w_iast d_B_discard_21 hS rfl hj (by decide) (by decide) ?_
    refine w_aload_n d_B_discard_22 rfl ?_
    refine w_getf g_B_19 d_B_discard_23 hB rfl (by decide) ?_
    refine w_iload_n d_B_discard_26 rfl ?_
    refine w_icmp_ne 35 d_B_discard_27 (by decide) (fun hz => ?_) (fun hz => ?_)
    · -- taken
      have hne : ¬ bl = some j := fun z => hz (by rw [z]; rfl)
      refine w_iload_n d_B_discard_35 rfl ?_
      exact w_zret hx d_B_discard_36 rfl (⟨_, rfl, rfl, by rw [if_neg hne]; exact hB, rfl, same_up (by simp)⟩)
    · -- not taken
      have he : bl = some j := by cases bl with | none => exact absurd hz.symm (nI_neg (by omega)) | some k => rw [(nI_eq (by have := hbl k rfl; omega) (by omega)).mp hz]
      refine w_aload_n d_B_discard_30 rfl ?_
      refine w_iconst (-1) d_B_discard_31 (by decide) ?_
      refine w_putf p_B_19 d_B_discard_32 hB rfl rfl (gqL rfl) (by decide) ?_
      refine w_iload_n d_B_discard_35 rfl ?_
      exact w_zret hx d_B_discard_36 rfl (⟨_, rfl, rfl, by rw [if_pos he]; rfl, rfl, same_trans (same_up (by simp)) (same_up (by simp))⟩)
  refine w_aload_n d_B_discard_0 rfl ?_
  refine w_getf g_B_9 d_B_discard_1 hB rfl (by decide) ?_
  refine w_iload_n d_B_discard_4 rfl ?_
  refine w_iald d_B_discard_5 hS rfl hj (by decide) (by decide) ?_
  refine w_if_eq 13 d_B_discard_6 (by decide) (fun hz => ?_) (fun hz => ?_)
  · -- taken
    rw [decide_eq_false (fun z => z hz)]
    refine w_iconst 0 d_B_discard_13 (by decide) ?_
    exact key 0 (Or.inl rfl)
  · -- not taken
    rw [decide_eq_true hz]
    refine w_iconst 1 d_B_discard_9 (by decide) ?_
    refine w_goto 14 d_B_discard_10 (by decide) ?_
    exact key 1 (Or.inr rfl)
end BD
