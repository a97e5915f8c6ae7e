/-! The class Table (and the JDK's compare, SelfArranger.groupsOfFour): what each method answers -/
abbrev aI (X : gX) (n : Nat) (f : Nat → Int32) : va_E := .inl (X.cI, n, .inl f)
abbrev aZ (X : gX) (n : Nat) (f : Nat → Int32) : va_E := .inl (X.cZ, n, .inl f)
abbrev oT (a : Nat → Nat) (ins rt : Nat) : va_E := .inr (1, [.ref (a 2), .ref (a 3), .int (nI ins), .int (nI rt)])
def cmpI (x y : Int32) : Int32 := if x < y then -1 else if x = y then 0 else 1
def bI (b : Bool) : Int32 := if b then 1 else 0
-- a row's value in a column; the column -1 counts for nothing
def colV (v : Nat → Int32) (r : Nat) (k : Int32) : Int32 := if k = -1 then 0 else v (3 * r + k.toNatClampNeg)
-- row x comes behind row y by the columns f, g
def gtv (v : Nat → Int32) (f g : Int32) (x y : Nat) : Bool := decide (colV v y f < colV v x f) || (decide (colV v x f = colV v y f) && decide (colV v y g < colV v x g))
def isCol (k : Int32) : Prop := k = -1 ∨ ∃ j : Nat, j < 3 ∧ k = nI j
def fours (n : Nat) : Nat := (n + 3) / 4
def leavesOf (n : Nat) : Nat := if fours n = 0 then 1 else fours n
-- the levels above n leaves (at most 16), and all nodes
def hgt (n : Nat) : Nat := if n ≤ 1 then 0 else if n ≤ 4 then 1 else 2
def szo (n : Nat) : Nat := if n ≤ 1 then n else if n ≤ 4 then n + 1 else n + fours n + 1
-- the first entry of an index, k rows looked at
def feGo (h : Nat → Int32) (gt : Nat → Nat → Bool) : Nat → Option Nat
  | 0 => none
  | k + 1 => if h k = 0 then feGo h gt k else match feGo h gt k with
    | none => some k
    | some l => if gt l k then some k else some l
def oI : Option Nat → Int32
  | none => -1
  | some r => nI r
-- the cells are as they were, but for those at the places l
def same (c w : Nat → va_E) (l : List Nat) : Prop := ∀ k, k ∉ l → w k = c k
theorem nIinc (j : Nat) : nI j + Int32.ofInt 1 = nI (j + 1) := nI_1 j
theorem nIdec (j : Nat) : nI (j + 1) + Int32.ofInt (-1) = nI j := pk_m1 j
theorem va_s {α : Type} {f : Nat → α} {k : Nat} {v : α} : va_up f k v k = v := by simp [va_up]
theorem va_n {α : Type} {f : Nat → α} {k j : Nat} {v e : α} (h : j ≠ k) (he : f j = e) : va_up f k v j = e := by simp [va_up, h, he]
theorem ix3 (r k : Nat) : nI r * 3 + nI k = nI (3 * r + k) := by
  rw [show (3 : Int32) = nI 3 from rfl, pk_mul, nI_add, Nat.mul_comm]
theorem nI3 {n : Nat} (h : n < 1000) : (nI n + 4 - 1) / 4 = nI (fours n) := by
  have e1 : nI n + 4 - 1 = nI (n + 3) := by
    rw [show (4 : Int32) = nI 4 from rfl, nI_add, show n + 4 = (n + 3) + 1 from rfl, nI_pred]
  rw [e1, show (4 : Int32) = nI 4 from rfl, pk_div (by omega) (by decide) (by decide)]
  rfl
theorem nI_neg {n : Nat} (h : n < 2 ^ 31) : ¬ nI n = -1 := fun e => by
  have := nI_pos h
  rw [e] at this
  exact this (by decide)
theorem hgt_s {n m : Nat} (h : hgt n = m + 1) (hn : n ≤ 16) : 1 < n ∧ hgt (fours n) = m ∧ fours n ≤ 16 ∧ szo n = n + szo (fours n) := by
  unfold hgt szo fours at *
  split at h
  · omega
  · split at h
    · have : (n + 3) / 4 = 1 := by omega
      rw [this]
      refine ⟨by omega, by simp; omega, by omega, ?_⟩
      rw [if_neg (by omega), if_pos (by omega)]
      simp
    · have h1 : 2 ≤ (n + 3) / 4 ∧ (n + 3) / 4 ≤ 4 := by omega
      refine ⟨by omega, ?_, by omega, ?_⟩
      · rw [if_neg (by omega), if_pos (by omega)]; omega
      · rw [if_neg (by omega), if_neg (by omega), if_neg (by omega), if_pos (by omega)]
        omega
theorem hgt_z {n : Nat} (h : hgt n = 0) : n ≤ 1 := by
  unfold hgt at h
  split at h
  · assumption
  · split at h <;> omega
theorem leaves_le {n : Nat} (h : n ≤ 64) : leavesOf n ≤ 16 ∧ 1 ≤ leavesOf n := by
  unfold leavesOf fours
  split <;> omega
theorem hgt_le (n : Nat) : hgt n ≤ 2 := by
  unfold hgt
  split
  · omega
  · split <;> omega
section TB
variable {X : gX} {a : Nat → Nat} {c : Nat → va_E} {ins rt : Nat} {v h : Nat → Int32}
theorem t_groupsOfFour {n : Nat} (hn : n < 1000) : GW X a m_A_groupsOfFour 0 0 0 0 0 (lv_args 0 [.int (nI n)]) [] c (pI (eI (nI (fours n)) c)) := by
  refine w_iload_n d_A_groupsOfFour_0 rfl ?_
  refine w_iconst 4 d_A_groupsOfFour_1 (by decide) ?_
  refine w_iadd d_A_groupsOfFour_2 ?_
  refine w_iconst 1 d_A_groupsOfFour_3 (by decide) ?_
  refine w_isub d_A_groupsOfFour_4 ?_
  refine w_iconst 4 d_A_groupsOfFour_5 (by decide) ?_
  refine w_idiv d_A_groupsOfFour_6 (by decide) ?_
  exact w_iret d_A_groupsOfFour_7 rfl (⟨_, rfl, (nI3 hn).symm, rfl⟩)
theorem t_compareI {x y : Int32} : GW X a m_J_compare 0 0 0 0 0 (lv_args 0 [.int x, .int y]) [] c (pI (eI (cmpI x y) c)) := by
  refine w_iload_n d_J_compare_0 rfl ?_
  refine w_iload_n d_J_compare_1 rfl ?_
  refine w_icmp_ge 9 d_J_compare_2 (by decide) (fun hc => ?_) (fun hc => ?_)
  · -- taken
    refine w_iload_n d_J_compare_9 rfl ?_
    refine w_iload_n d_J_compare_10 rfl ?_
    refine w_icmp_ne 18 d_J_compare_11 (by decide) (fun hd => ?_) (fun hd => ?_)
    · -- taken
      refine w_iconst 1 d_J_compare_18 (by decide) ?_
      exact w_iret d_J_compare_19 rfl (⟨_, rfl, by unfold cmpI; rw [if_neg (by rw [Int32.not_lt]; exact hc), if_neg hd], rfl⟩)
    · -- not taken
      refine w_iconst 0 d_J_compare_14 (by decide) ?_
      refine w_goto 19 d_J_compare_15 (by decide) ?_
      exact w_iret d_J_compare_19 rfl (⟨_, rfl, by unfold cmpI; rw [if_neg (by rw [Int32.not_lt]; exact hc), if_pos hd], rfl⟩)
  · -- not taken
    refine w_iconst (-1) d_J_compare_5 (by decide) ?_
    refine w_goto 19 d_J_compare_6 (by decide) ?_
    exact w_iret d_J_compare_19 rfl (⟨_, rfl, by unfold cmpI; rw [if_pos (by rw [← Int32.not_le]; exact hc)], rfl⟩)
theorem t_at {r k : Nat} (hT : c 1 = oT a ins rt) (hV : c 2 = aI X 192 v) (hr : r < 64) (hk : k < 3) : GW X a m_T_at 0 0 0 0 0 (lv_args 0 [.ref (a 1), .int (nI r), .int (nI k)]) [] c (pI (eI (v (3 * r + k)) c)) := by
  refine w_aload_n d_T_at_0 rfl ?_
  refine w_getf g_T_9 d_T_at_1 hT rfl (by decide) ?_
  refine w_iload_n d_T_at_4 rfl ?_
  refine w_iconst 3 d_T_at_5 (by decide) ?_
  refine w_imul d_T_at_6 ?_
  refine w_iload_n d_T_at_7 rfl ?_
  refine w_iadd d_T_at_8 ?_
  refine w_iald d_T_at_9 hV (ix3 r k) (by omega) (by decide) (by decide) ?_
  exact w_iret d_T_at_10 rfl (⟨_, rfl, rfl, rfl⟩)
theorem t_put {r k : Nat} {x : Int32} (hT : c 1 = oT a ins rt) (hV : c 2 = aI X 192 v) (hr : r < 64) (hk : k < 3) : GW X a m_T_put 0 0 0 0 0 (lv_args 0 [.ref (a 1), .int (nI r), .int (nI k), .int x]) [] c (pV (eV (va_up c 2 (aI X 192 (upd v (3 * r + k) x))))) := by
  refine w_aload_n d_T_put_0 rfl ?_
  refine w_getf g_T_9 d_T_put_1 hT rfl (by decide) ?_
  refine w_iload_n d_T_put_4 rfl ?_
  refine w_iconst 3 d_T_put_5 (by decide) ?_
  refine w_imul d_T_put_6 ?_
  refine w_iload_n d_T_put_7 rfl ?_
  refine w_iadd d_T_put_8 ?_
  refine w_iload_n d_T_put_9 rfl ?_
  refine w_iast d_T_put_10 hV (ix3 r k) (by omega) (by decide) (by decide) ?_
  exact w_vret d_T_put_11 rfl (⟨rfl, rfl⟩)
theorem t_isFull (hT : c 1 = oT a ins rt) (hi : ins ≤ 64) : GW X a m_T_isFull 0 0 0 0 0 (lv_args 0 [.ref (a 1)]) [] c (pI (eI (bI (decide (ins = 64))) c)) := by
  refine w_aload_n d_T_isFull_0 rfl ?_
  refine w_getf g_T_19 d_T_isFull_1 hT rfl (by decide) ?_
  refine w_bipush 64 d_T_isFull_4 (by decide) ?_
  refine w_icmp_lt 13 d_T_isFull_6 (by decide) (fun hc => ?_) (fun hc => ?_)
  · -- taken
    have h1 : ins < 64 := (nI_ltI (by omega) (by decide)).mp hc
    refine w_iconst 0 d_T_isFull_13 (by decide) ?_
    exact w_zret (by first | exact Or.inl rfl | exact Or.inr rfl) d_T_isFull_14 rfl (⟨_, rfl, by rw [bI, decide_eq_false (by omega)]; rfl, rfl⟩)
  · -- not taken
    have h1 : ¬ ins < 64 := fun z => hc ((nI_ltI (by omega) (by decide)).mpr z)
    refine w_iconst 1 d_T_isFull_9 (by decide) ?_
    refine w_goto 14 d_T_isFull_10 (by decide) ?_
    exact w_zret (by first | exact Or.inl rfl | exact Or.inr rfl) d_T_isFull_14 rfl (⟨_, rfl, by rw [bI, decide_eq_true (by omega)]; rfl, rfl⟩)
theorem t_heapPages (hT : c 1 = oT a ins rt) (hi : ins ≤ 64) : GW X a m_T_heapPages 1 20 0 0 0 (lv_args 0 [.ref (a 1)]) [] c (pI (eI (nI (fours ins)) c)) := by
  refine w_aload_n d_T_heapPages_0 rfl ?_
  refine w_getf g_T_19 d_T_heapPages_1 hT rfl (by decide) ?_
  refine w_sI [_] c_T_30 d_T_heapPages_4 (t_groupsOfFour (by omega)) (fun x w hw => ?_) rfl rfl (gq rfl) (gq rfl) (gq rfl) (gq rfl) (gq rfl) (gq rfl)
  obtain ⟨rfl, rfl⟩ := hw
  exact w_iret d_T_heapPages_7 rfl (⟨_, rfl, rfl, rfl⟩)
theorem t_indexLeaves (hT : c 1 = oT a ins rt) (hi : rt ≤ 64) : GW X a m_T_indexLeaves 1 21 0 0 0 (lv_args 0 [.ref (a 1)]) [] c (pI (eI (nI (leavesOf rt)) c)) := by
  have e : (if (1 : Int32) < nI (fours rt) then nI (fours rt) else 1) = nI (leavesOf rt) := by
    have h1 : fours rt ≤ 16 := by unfold fours; omega
    rw [show (1 : Int32) = nI 1 from rfl]
    by_cases h : 1 < fours rt
    · rw [if_pos (nI_lt h (by omega)), leavesOf, if_neg (by omega)]
    · rw [if_neg (nI_nlt (by omega) (by decide))]
      unfold leavesOf
      by_cases h2 : fours rt = 0
      · rw [if_pos h2]
      · rw [if_neg h2]
        congr 1
        omega
  refine w_iconst 1 d_T_indexLeaves_0 (by decide) ?_
  refine w_aload_n d_T_indexLeaves_1 rfl ?_
  refine w_getf g_T_27 d_T_indexLeaves_2 hT rfl (by decide) ?_
  refine w_sI [_] c_T_30 d_T_indexLeaves_5 (t_groupsOfFour (by omega)) (fun x w hw => ?_) rfl rfl (gq rfl) (gq rfl) (gq rfl) (gq rfl) (gq rfl) (gq rfl)
  obtain ⟨rfl, rfl⟩ := hw
  refine w_mmax w_362 d_T_indexLeaves_8 (gq rfl) (gq rfl) ?_
  exact w_iret d_T_indexLeaves_11 rfl (⟨_, rfl, e.symm, rfl⟩)
theorem t_hLoop (hT : c 1 = oT a ins rt) : ∀ (m j n : Nat), hgt n = m → n ≤ 16 → j + m ≤ 10 → GW X a m_T_indexHeight 2 41 0 0 7 [(0, .ref (a 1)), (1, .int (nI j)), (2, .int (nI n))] [] c (pI (eI (nI (j + m)) c)) := by
  intro m
  induction m with
  | zero =>
    intro j n hm hn hj
    have h1 := hgt_z hm
    refine w_iload_n d_T_indexHeight_7 rfl ?_
    refine w_iconst 1 d_T_indexHeight_8 (by decide) ?_
    refine w_icmp_le 29 d_T_indexHeight_9 (by decide) (fun _ => ?_) (fun hn => absurd ((nI_leI (by omega) (by decide)).mpr h1) hn)
    refine w_iload_n d_T_indexHeight_29 rfl ?_
    exact w_iret d_T_indexHeight_30 rfl (⟨_, rfl, rfl, rfl⟩)
  | succ m ih =>
    intro j n hm hn hj
    obtain ⟨h1, h2, h3, -⟩ := hgt_s hm hn
    refine w_iload_n d_T_indexHeight_7 rfl ?_
    refine w_iconst 1 d_T_indexHeight_8 (by decide) ?_
    refine w_icmp_le 29 d_T_indexHeight_9 (by decide) (fun hn => absurd hn (fun z => absurd ((nI_leI (b := 1) (by omega) (by decide)).mp z) (by omega))) (fun _ => ?_)
    refine w_iload_n d_T_indexHeight_12 rfl ?_
    refine w_bipush 64 d_T_indexHeight_13 (by decide) ?_
    refine w_icmp_ge 29 d_T_indexHeight_15 (by decide) (fun hn => absurd hn (fun z => absurd ((nI_leI (a := 64) (by decide) (by omega)).mp z) (by omega))) (fun _ => ?_)
    refine w_iload_n d_T_indexHeight_18 rfl ?_
    refine w_sI [_] c_T_30 d_T_indexHeight_19 (t_groupsOfFour (by omega)) (fun x w hw => ?_) rfl rfl (gq rfl) (gq rfl) (gq rfl) (gq rfl) (gq rfl) (gq rfl)
    obtain ⟨rfl, rfl⟩ := hw
    refine w_istore_n d_T_indexHeight_22 (by decide) ?_
    first | refine w_iinc _ d_T_indexHeight_23 rfl (nIinc _) (by decide) ?_ | refine w_iinc _ d_T_indexHeight_23 rfl rfl (by decide) ?_
    refine w_goto 7 d_T_indexHeight_26 (by decide) ?_
    rw [show j + (m + 1) = j + 1 + m by omega]
    exact ih (j + 1) (fours n) h2 h3 (by omega)
theorem t_indexHeight (hT : c 1 = oT a ins rt) (hi : rt ≤ 64) : GW X a m_T_indexHeight 2 41 0 0 0 (lv_args 0 [.ref (a 1)]) [] c (pI (eI (nI (hgt (leavesOf rt))) c)) := by
  have hl := leaves_le hi
  have hh := hgt_le (leavesOf rt)
  refine w_iconst 0 d_T_indexHeight_0 (by decide) ?_
  refine w_istore_n d_T_indexHeight_1 (by decide) ?_
  refine w_aload_n d_T_indexHeight_2 rfl ?_
  refine w_vI [] c_T_40 d_T_indexHeight_3 rfl hT (by decide) (t_indexLeaves hT hi) (fun x w hw => ?_) rfl rfl (gq rfl) (gq rfl) (gq rfl) (gq rfl) (gq rfl) (gq rfl)
  obtain ⟨rfl, rfl⟩ := hw
  refine w_istore_n d_T_indexHeight_6 (by decide) ?_
  have k := t_hLoop (X := X) hT (hgt (leavesOf rt)) 0 (leavesOf rt) rfl hl.1 (by omega)
  rw [Nat.zero_add] at k
  exact k
theorem t_zLoop (hT : c 1 = oT a ins rt) : ∀ (m j n z : Nat), hgt n = m → n ≤ 16 → j + m ≤ 10 → GW X a m_T_indexSize 3 63 0 0 15 [(0, .ref (a 1)), (1, .int (nI (j + m))), (2, .int (nI n)), (3, .int (nI (z + n))), (4, .int (nI (j + 1)))] [] c (pI (eI (nI (z + szo n)) c)) := by
  intro m
  induction m with
  | zero =>
    intro j n z hm hn hj
    have h1 := hgt_z hm
    have h2 : szo n = n := by unfold szo; rw [if_pos h1]
    rw [h2]
    refine w_iload d_T_indexSize_15 rfl ?_
    refine w_iload_n d_T_indexSize_17 rfl ?_
    refine w_icmp_gt 36 d_T_indexSize_18 (by decide) (fun _ => ?_) (fun hn => absurd ((nI_ltI (by omega) (by omega)).mpr (by omega)) hn)
    refine w_iload_n d_T_indexSize_36 rfl ?_
    exact w_iret d_T_indexSize_37 rfl (⟨_, rfl, rfl, rfl⟩)
  | succ m ih =>
    intro j n z hm hn hj
    obtain ⟨h1, h2, h3, h4⟩ := hgt_s hm hn
    refine w_iload d_T_indexSize_15 rfl ?_
    refine w_iload_n d_T_indexSize_17 rfl ?_
    refine w_icmp_gt 36 d_T_indexSize_18 (by decide) (fun hn => absurd hn (fun q => absurd ((nI_ltI (by omega) (by omega)).mp q) (by omega))) (fun _ => ?_)
    refine w_iload_n d_T_indexSize_21 rfl ?_
    refine w_sI [_] c_T_30 d_T_indexSize_22 (t_groupsOfFour (by omega)) (fun x w hw => ?_) rfl rfl (gq rfl) (gq rfl) (gq rfl) (gq rfl) (gq rfl) (gq rfl)
    obtain ⟨rfl, rfl⟩ := hw
    refine w_istore_n d_T_indexSize_25 (by decide) ?_
    refine w_iload_n d_T_indexSize_26 rfl ?_
    refine w_iload_n d_T_indexSize_27 rfl ?_
    refine w_iadd d_T_indexSize_28 ?_
    rw [nI_add]
    refine w_istore_n d_T_indexSize_29 (by decide) ?_
    first | refine w_iinc _ d_T_indexSize_30 rfl (nIinc _) (by decide) ?_ | refine w_iinc _ d_T_indexSize_30 rfl rfl (by decide) ?_
    refine w_goto 15 d_T_indexSize_33 (by decide) ?_
    rw [show j + (m + 1) = j + 1 + m by omega, h4, show z + (n + szo (fours n)) = (z + n) + szo (fours n) by omega]
    exact ih (j + 1) (fours n) (z + n) h2 h3 (by omega)
theorem t_indexSize (hT : c 1 = oT a ins rt) (hi : rt ≤ 64) : GW X a m_T_indexSize 3 63 0 0 0 (lv_args 0 [.ref (a 1)]) [] c (pI (eI (nI (szo (leavesOf rt))) c)) := by
  have hl := leaves_le hi
  have hh := hgt_le (leavesOf rt)
  refine w_aload_n d_T_indexSize_0 rfl ?_
  refine w_vI [] c_T_44 d_T_indexSize_1 rfl hT (by decide) (t_indexHeight hT hi) (fun x w hw => ?_) rfl rfl (gq rfl) (gq rfl) (gq rfl) (gq rfl) (gq rfl) (gq rfl)
  obtain ⟨rfl, rfl⟩ := hw
  refine w_istore_n d_T_indexSize_4 (by decide) ?_
  refine w_aload_n d_T_indexSize_5 rfl ?_
  refine w_vI [] c_T_40 d_T_indexSize_6 rfl hT (by decide) (t_indexLeaves hT hi) (fun x w hw => ?_) rfl rfl (gq rfl) (gq rfl) (gq rfl) (gq rfl) (gq rfl) (gq rfl)
  obtain ⟨rfl, rfl⟩ := hw
  refine w_istore_n d_T_indexSize_9 (by decide) ?_
  refine w_iload_n d_T_indexSize_10 rfl ?_
  refine w_istore_n d_T_indexSize_11 (by decide) ?_
  refine w_iconst 1 d_T_indexSize_12 (by decide) ?_
  refine w_istore d_T_indexSize_13 (by decide) ?_
  have k := t_zLoop (X := X) hT (hgt (leavesOf rt)) 0 (leavesOf rt) 0 rfl hl.1 (by omega)
  simp only [Nat.zero_add] at k
  exact k
theorem t_compare {r o : Nat} {k : Int32} (hT : c 1 = oT a ins rt) (hV : c 2 = aI X 192 v) (hr : r < 64) (ho : o < 64) (hk : isCol k) : GW X a m_T_compare 1 22 0 0 0 (lv_args 0 [.ref (a 1), .int (nI r), .int (nI o), .int k]) [] c (pI (eI (cmpI (colV v r k) (colV v o k)) c)) := by
  rcases hk with rfl | ⟨j, hj, rfl⟩
  · skip
    refine w_iload_n d_T_compare_0 rfl ?_
    refine w_iconst (-1) d_T_compare_1 (by decide) ?_
    refine w_icmp_ne 9 d_T_compare_2 (by decide) (fun hn => absurd (rfl) hn) (fun _ => ?_)
    refine w_iconst 0 d_T_compare_5 (by decide) ?_
    refine w_goto 24 d_T_compare_6 (by decide) ?_
    exact w_iret d_T_compare_24 rfl (⟨_, rfl, rfl, rfl⟩)
  · have e : ∀ r, colV v r (nI j) = v (3 * r + j) := fun r => by
      rw [colV, if_neg (nI_neg (by omega)), nI_clamp (by omega)]
    refine w_iload_n d_T_compare_0 rfl ?_
    refine w_iconst (-1) d_T_compare_1 (by decide) ?_
    refine w_icmp_ne 9 d_T_compare_2 (by decide) (fun _ => ?_) (fun hn => absurd hn ((nI_neg (by omega))))
    refine w_aload_n d_T_compare_9 rfl ?_
    refine w_iload_n d_T_compare_10 rfl ?_
    refine w_iload_n d_T_compare_11 rfl ?_
    refine w_vI [_, _] c_T_55 d_T_compare_12 rfl hT (by decide) (t_at hT hV hr hj) (fun x w hw => ?_) rfl rfl (gq rfl) (gq rfl) (gq rfl) (gq rfl) (gq rfl) (gq rfl)
    obtain ⟨rfl, rfl⟩ := hw
    refine w_aload_n d_T_compare_15 rfl ?_
    refine w_iload_n d_T_compare_16 rfl ?_
    refine w_iload_n d_T_compare_17 rfl ?_
    refine w_vI [_, _] c_T_55 d_T_compare_18 rfl hT (by decide) (t_at hT hV ho hj) (fun x w hw => ?_) rfl rfl (gq rfl) (gq rfl) (gq rfl) (gq rfl) (gq rfl) (gq rfl)
    obtain ⟨rfl, rfl⟩ := hw
    refine w_sI [_, _] c_T_58 d_T_compare_21 (t_compareI) (fun x w hw => ?_) rfl rfl (gq rfl) (gq rfl) (gq rfl) (gq rfl) (gq rfl) (gq rfl)
    obtain ⟨rfl, rfl⟩ := hw
    exact w_iret d_T_compare_24 rfl (⟨_, rfl, by rw [e, e], rfl⟩)
theorem cmpI_gt {x y : Int32} : 0 < cmpI x y ↔ y < x := by
  unfold cmpI
  by_cases h1 : x < y
  · rw [if_pos h1]
    exact ⟨fun z => absurd z (by decide), fun z => absurd h1 (Int32.not_lt.mpr (Int32.le_of_lt z))⟩
  · rw [if_neg h1]
    by_cases h2 : x = y
    · rw [if_pos h2, h2]
      exact ⟨fun z => absurd z (by decide), fun z => absurd z (Int32.lt_irrefl)⟩
    · rw [if_neg h2]
      refine ⟨fun _ => ?_, fun _ => by decide⟩
      rw [Int32.lt_iff_toInt_lt] at *
      have : x.toInt ≠ y.toInt := fun z => h2 (Int32.toInt_inj.mp z)
      omega
theorem cmpI_eq {x y : Int32} : cmpI x y = 0 ↔ x = y := by
  unfold cmpI
  by_cases h1 : x < y
  · rw [if_pos h1]
    refine ⟨fun z => absurd z (by decide), fun z => ?_⟩
    rw [z] at h1
    exact absurd h1 Int32.lt_irrefl
  · rw [if_neg h1]
    by_cases h2 : x = y
    · rw [if_pos h2]; exact ⟨fun _ => h2, fun _ => rfl⟩
    · rw [if_neg h2]; exact ⟨fun z => absurd z (by decide), fun z => absurd z h2⟩
theorem t_isAfter {r o : Nat} {k l : Int32} (hT : c 1 = oT a ins rt) (hV : c 2 = aI X 192 v) (hr : r < 64) (ho : o < 64) (hk : isCol k) (hl : isCol l) : GW X a m_T_isAfter 2 45 0 0 0 (lv_args 0 [.ref (a 1), .int (nI r), .int (nI o), .int k, .int l]) [] c (pI (eI (bI (gtv v k l r o)) c)) := by
  refine w_aload_n d_T_isAfter_0 rfl ?_
  refine w_iload_n d_T_isAfter_1 rfl ?_
  refine w_iload_n d_T_isAfter_2 rfl ?_
  refine w_iload_n d_T_isAfter_3 rfl ?_
  refine w_vI [_, _, _] c_T_51 d_T_isAfter_4 rfl hT (by decide) (t_compare hT hV hr ho hk) (fun x w hw => ?_) rfl rfl (gq rfl) (gq rfl) (gq rfl) (gq rfl) (gq rfl) (gq rfl)
  obtain ⟨rfl, rfl⟩ := hw
  refine w_istore d_T_isAfter_7 (by decide) ?_
  refine w_iload d_T_isAfter_9 rfl ?_
  refine w_if_gt 30 d_T_isAfter_11 (by decide) (fun h1 => ?_) (fun h1 => ?_)
  · -- taken
    refine w_iconst 1 d_T_isAfter_30 (by decide) ?_
    refine w_goto 35 d_T_isAfter_31 (by decide) ?_
    exact w_zret (by first | exact Or.inl rfl | exact Or.inr rfl) d_T_isAfter_35 rfl (⟨_, rfl, by rw [bI, gtv, decide_eq_true (cmpI_gt.mp h1)]; rfl, rfl⟩)
  · -- not taken
    have n1 : ¬ colV v o k < colV v r k := fun z => h1 (cmpI_gt.mpr z)
    refine w_iload d_T_isAfter_14 rfl ?_
    refine w_if_ne 34 d_T_isAfter_16 (by decide) (fun h2 => ?_) (fun h2 => ?_)
    · -- taken
      refine w_iconst 0 d_T_isAfter_34 (by decide) ?_
      exact w_zret (by first | exact Or.inl rfl | exact Or.inr rfl) d_T_isAfter_35 rfl (⟨_, rfl, by rw [bI, gtv, decide_eq_false n1, decide_eq_false (fun z => h2 (cmpI_eq.mpr z))]; rfl, rfl⟩)
    · -- not taken
      have e2 := cmpI_eq.mp h2
      refine w_aload_n d_T_isAfter_19 rfl ?_
      refine w_iload_n d_T_isAfter_20 rfl ?_
      refine w_iload_n d_T_isAfter_21 rfl ?_
      refine w_iload d_T_isAfter_22 rfl ?_
      refine w_vI [_, _, _] c_T_51 d_T_isAfter_24 rfl hT (by decide) (t_compare hT hV hr ho hl) (fun x w hw => ?_) rfl rfl (gq rfl) (gq rfl) (gq rfl) (gq rfl) (gq rfl) (gq rfl)
      obtain ⟨rfl, rfl⟩ := hw
      refine w_if_le 34 d_T_isAfter_27 (by decide) (fun h3 => ?_) (fun h3 => ?_)
      · -- taken
        refine w_iconst 0 d_T_isAfter_34 (by decide) ?_
        exact w_zret (by first | exact Or.inl rfl | exact Or.inr rfl) d_T_isAfter_35 rfl (⟨_, rfl, by rw [bI, gtv, decide_eq_false n1, decide_eq_true e2, decide_eq_false (fun z => absurd h3 (Int32.not_le.mpr (cmpI_gt.mpr z)))]; rfl, rfl⟩)
      · -- not taken
        refine w_iconst 1 d_T_isAfter_30 (by decide) ?_
        refine w_goto 35 d_T_isAfter_31 (by decide) ?_
        exact w_zret (by first | exact Or.inl rfl | exact Or.inr rfl) d_T_isAfter_35 rfl (⟨_, rfl, by rw [bI, gtv, decide_eq_false n1, decide_eq_true e2, decide_eq_true (cmpI_gt.mp (Int32.not_le.mp h3))]; rfl, rfl⟩)
end TB
