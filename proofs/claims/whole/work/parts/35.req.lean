/-! SelfArranger: what is required, changes noted -/
theorem nn_of {x : Int32} (h : ¬ x < 0) : ∃ j, j < 2 ^ 31 ∧ x = nI j := by
  have h0 : (0 : Int) ≤ x.toInt := by
    have := Int32.not_lt.mp h
    rw [Int32.le_iff_toInt_le] at this
    exact this
  have h1 : x.toInt < 2 ^ 31 := Int32.toInt_lt x
  refine ⟨x.toInt.toNat, by omega, Int32.toInt_inj.mp ?_⟩
  rw [nI_toInt (by omega)]
  omega
theorem nn_lt {x : Int32} {n : Nat} (h0 : ¬ x < 0) (h1 : x < nI n) (hn : n < 2 ^ 31) : ∃ j, j < n ∧ x = nI j := by
  obtain ⟨j, hj, rfl⟩ := nn_of h0
  exact ⟨j, (nI_ltI hj hn).mp h1, rfl⟩
theorem nn_le {x : Int32} {n : Nat} (h0 : ¬ x < 0) (h1 : x ≤ nI n) (hn : n < 2 ^ 31) : ∃ j, j ≤ n ∧ x = nI j := by
  obtain ⟨j, hj, rfl⟩ := nn_of h0
  exact ⟨j, (nI_leI hj hn).mp h1, rfl⟩
theorem nI_n0 {n : Nat} (hn : n < 2 ^ 31) : ¬ nI n < 0 := fun h => by
  have := (nI_ltI (b := 0) hn (by decide)).mp h
  omega
def isV (x : Int32) : Prop := -1000 ≤ x ∧ x ≤ 1000
def rwI (t : QT) (x : Int32) : Prop := ∃ j, j < t.1 ∧ x = nI j ∧ ¬ t.2.2 j = 0
def clI (x : Int32) : Prop := ∃ j, j < 3 ∧ x = nI j
def ixI (x : Int32) : Prop := ∃ j, j < 9 ∧ x = nI j
def ntD (d : QD) : QD := (d.1, d.2.1 + 4, d.2.2)
def ntB (b : QB) (r : Nat) : QB := (b.1, b.2.1, (if b.1.isSome = true ∧ r < b.2.1 then b.2.2.1 + 1 else b.2.2.1), b.2.2.2)
theorem nle_lt {x y : Int32} (h : ¬ x ≤ y) : y < x := Int32.not_le.mp h
theorem nlt_le {x y : Int32} (h : ¬ x < y) : y ≤ x := Int32.not_lt.mp h
theorem lt_nle {x y : Int32} (h : x < y) : ¬ y ≤ x := Int32.not_le.mpr h
theorem le_nlt {x y : Int32} (h : x ≤ y) : ¬ y < x := Int32.not_lt.mpr h
section RQ
variable {X : gX} {a : Nat → Nat} {c : Nat → va_E} {t : QT} {k : QC} {o : QO} {l : QL} {p : QP} {d : QD} {b : QB} {r : List Nat}
theorem a_reqV {x : Int32} (hX : X.l.stackTraces = false) : GW X a m_A_requireValue 6 90 1 6 0 (lv_args 0 [.int x]) [] c (pVT (fun w => isV x ∧ c = w) (fun e w => e = 0 ∧ ¬ isV x ∧ c = w)) := by
  refine w_iload_n d_A_requireValue_0 rfl ?_
  refine w_sipush (-1000) d_A_requireValue_1 (by decide) ?_
  refine w_icmp_lt 14 d_A_requireValue_4 (by decide) (fun h1 => ?_) (fun h1 => ?_)
  · -- taken
    exact w_throw hX (k := 0) (tx := "the value is not from -1000 to 1000") (by decide) rfl rfl w_546 (by decide) d_A_requireValue_14 d_A_requireValue_17 (Or.inr d_A_requireValue_18) d_A_requireValue_21 d_A_requireValue_24 (gq rfl) (gq rfl) (gq rfl) (gq rfl) (gq rfl) (Or.inr ⟨0, rfl, rfl, fun z => lt_nle h1 z.1, rfl⟩)
  · -- not taken
    refine w_iload_n d_A_requireValue_7 rfl ?_
    refine w_sipush 1000 d_A_requireValue_8 (by decide) ?_
    refine w_icmp_le 25 d_A_requireValue_11 (by decide) (fun h2 => ?_) (fun h2 => ?_)
    · -- taken
      exact w_vret d_A_requireValue_25 rfl (Or.inl ⟨rfl, ⟨nlt_le h1, h2⟩, rfl⟩)
    · -- not taken
      exact w_throw hX (k := 0) (tx := "the value is not from -1000 to 1000") (by decide) rfl rfl w_546 (by decide) d_A_requireValue_14 d_A_requireValue_17 (Or.inr d_A_requireValue_18) d_A_requireValue_21 d_A_requireValue_24 (gq rfl) (gq rfl) (gq rfl) (gq rfl) (gq rfl) (Or.inr ⟨0, rfl, rfl, fun z => h2 z.2, rfl⟩)
theorem a_reqC {x : Int32} (hX : X.l.stackTraces = false) : GW X a m_A_requireColumn 6 90 1 6 0 (lv_args 0 [.int x]) [] c (pVT (fun w => clI x ∧ c = w) (fun e w => e = 2 ∧ ¬ clI x ∧ c = w)) := by
  refine w_iload_n d_A_requireColumn_0 rfl ?_
  refine w_if_lt 9 d_A_requireColumn_1 (by decide) (fun h1 => ?_) (fun h1 => ?_)
  · -- taken
    exact w_throw hX (k := 2) (tx := "no such column") (by decide) rfl rfl w_671 (by decide) d_A_requireColumn_9 d_A_requireColumn_12 (Or.inr d_A_requireColumn_13) d_A_requireColumn_16 d_A_requireColumn_19 (gq rfl) (gq rfl) (gq rfl) (gq rfl) (gq rfl) (Or.inr ⟨2, rfl, rfl, fun z => by obtain ⟨j, hj, rfl⟩ := z; exact nI_n0 (by omega) h1, rfl⟩)
  · -- not taken
    refine w_iload_n d_A_requireColumn_4 rfl ?_
    refine w_iconst 3 d_A_requireColumn_5 (by decide) ?_
    refine w_icmp_lt 20 d_A_requireColumn_6 (by decide) (fun h2 => ?_) (fun h2 => ?_)
    · -- taken
      exact w_vret d_A_requireColumn_20 rfl (Or.inl ⟨rfl, nn_lt (n := 3) h1 h2 (by decide), rfl⟩)
    · -- not taken
      exact w_throw hX (k := 2) (tx := "no such column") (by decide) rfl rfl w_671 (by decide) d_A_requireColumn_9 d_A_requireColumn_12 (Or.inr d_A_requireColumn_13) d_A_requireColumn_16 d_A_requireColumn_19 (gq rfl) (gq rfl) (gq rfl) (gq rfl) (gq rfl) (Or.inr ⟨2, rfl, rfl, fun z => by obtain ⟨j, hj, rfl⟩ := z; exact h2 (nI_lt (b := 3) hj (by decide)), rfl⟩)
theorem a_reqI {x : Int32} (hX : X.l.stackTraces = false) : GW X a m_A_requireIndex 6 90 1 6 0 (lv_args 0 [.int x]) [] c (pVT (fun w => ixI x ∧ c = w) (fun e w => e = 2 ∧ ¬ ixI x ∧ c = w)) := by
  refine w_iload_n d_A_requireIndex_0 rfl ?_
  refine w_if_lt 10 d_A_requireIndex_1 (by decide) (fun h1 => ?_) (fun h1 => ?_)
  · -- taken
    exact w_throw hX (k := 2) (tx := "no such index") (by decide) rfl rfl w_671 (by decide) d_A_requireIndex_10 d_A_requireIndex_13 (Or.inr d_A_requireIndex_14) d_A_requireIndex_17 d_A_requireIndex_20 (gq rfl) (gq rfl) (gq rfl) (gq rfl) (gq rfl) (Or.inr ⟨2, rfl, rfl, fun z => by obtain ⟨j, hj, rfl⟩ := z; exact nI_n0 (by omega) h1, rfl⟩)
  · -- not taken
    refine w_iload_n d_A_requireIndex_4 rfl ?_
    refine w_bipush 9 d_A_requireIndex_5 (by decide) ?_
    refine w_icmp_lt 21 d_A_requireIndex_7 (by decide) (fun h2 => ?_) (fun h2 => ?_)
    · -- taken
      exact w_vret d_A_requireIndex_21 rfl (Or.inl ⟨rfl, nn_lt (n := 9) h1 h2 (by decide), rfl⟩)
    · -- not taken
      exact w_throw hX (k := 2) (tx := "no such index") (by decide) rfl rfl w_671 (by decide) d_A_requireIndex_10 d_A_requireIndex_13 (Or.inr d_A_requireIndex_14) d_A_requireIndex_17 d_A_requireIndex_20 (gq rfl) (gq rfl) (gq rfl) (gq rfl) (gq rfl) (Or.inr ⟨2, rfl, rfl, fun z => by obtain ⟨j, hj, rfl⟩ := z; exact h2 (nI_lt (b := 9) hj (by decide)), rfl⟩)
theorem a_reqR {x : Int32} (hX : X.l.stackTraces = false) (h : cls X a c t k o l p d b r) (hi : t.1 ≤ 64) : GW X a m_A_requireRow 6 90 1 6 0 (lv_args 0 [.ref (a 0), .int x]) [] c (pVT (fun w => rwI t x ∧ c = w) (fun e w => e = 2 ∧ ¬ rwI t x ∧ c = w)) := by
  refine w_iload_n d_A_requireRow_0 rfl ?_
  refine w_if_lt 27 d_A_requireRow_1 (by decide) (fun h1 => ?_) (fun h1 => ?_)
  · -- taken
    exact w_throw hX (k := 2) (tx := "the row is not there") (by decide) rfl rfl w_671 (by decide) d_A_requireRow_27 d_A_requireRow_30 (Or.inr d_A_requireRow_31) d_A_requireRow_34 d_A_requireRow_37 (gq rfl) (gq rfl) (gq rfl) (gq rfl) (gq rfl) (Or.inr ⟨2, rfl, rfl, fun z => by obtain ⟨j, hj, rfl, -⟩ := z; exact nI_n0 (by omega) h1, rfl⟩)
  · -- not taken
    refine w_iload_n d_A_requireRow_4 rfl ?_
    refine w_aload_n d_A_requireRow_5 rfl ?_
    refine w_getf g_A_12 d_A_requireRow_6 h.A rfl (by decide) ?_
    refine w_getf g_A_274 d_A_requireRow_9 h.T rfl (by decide) ?_
    refine w_icmp_ge 27 d_A_requireRow_12 (by decide) (fun h2 => ?_) (fun h2 => ?_)
    · -- taken
      exact w_throw hX (k := 2) (tx := "the row is not there") (by decide) rfl rfl w_671 (by decide) d_A_requireRow_27 d_A_requireRow_30 (Or.inr d_A_requireRow_31) d_A_requireRow_34 d_A_requireRow_37 (gq rfl) (gq rfl) (gq rfl) (gq rfl) (gq rfl) (Or.inr ⟨2, rfl, rfl, fun z => by obtain ⟨j, hj, rfl, -⟩ := z; exact lt_nle (nI_lt hj (by omega)) h2, rfl⟩)
    · -- not taken
      obtain ⟨j, hj, rfl⟩ := nn_lt h1 (nle_lt h2) (by omega)
      refine w_aload_n d_A_requireRow_15 rfl ?_
      refine w_getf g_A_12 d_A_requireRow_16 h.A rfl (by decide) ?_
      refine w_getf g_A_277 d_A_requireRow_19 h.T rfl (by decide) ?_
      refine w_iload_n d_A_requireRow_22 rfl ?_
      refine w_zald d_A_requireRow_23 h.H rfl (by omega) (by decide) (by decide) ?_
      refine w_if_ne 38 d_A_requireRow_24 (by decide) (fun h3 => ?_) (fun h3 => ?_)
      · -- taken
        exact w_vret d_A_requireRow_38 rfl (Or.inl ⟨rfl, ⟨j, hj, rfl, h3⟩, rfl⟩)
      · -- not taken
        exact w_throw hX (k := 2) (tx := "the row is not there") (by decide) rfl rfl w_671 (by decide) d_A_requireRow_27 d_A_requireRow_30 (Or.inr d_A_requireRow_31) d_A_requireRow_34 d_A_requireRow_37 (gq rfl) (gq rfl) (gq rfl) (gq rfl) (gq rfl) (Or.inr ⟨2, rfl, rfl, fun z => by obtain ⟨i, hi', e, h4⟩ := z; cases (nI_eq (by omega) (by omega)).mp e; exact h4 h3, rfl⟩)
theorem a_note {row : Nat} (hA : c 0 = oA a o.1 o.2.1 o.2.2 l.1 l.2) (hD : ldg X a c d) (hB : c 75 = oB a b.1 b.2.1 b.2.2.1) (hr : row < 64) (hh : b.2.1 ≤ 64) (hbl : ∀ j, b.1 = some j → j < 9) :
    GW X a m_A_noteChange 2 41 0 0 0 (lv_args 0 [.ref (a 0), .int (nI row)]) [] c (pV (fun w => ldg X a w (ntD d) ∧ w 75 = oB a (ntB b row).1 (ntB b row).2.1 (ntB b row).2.2.1 ∧ same c w [16, 75])) := by
  obtain ⟨pm, D, hL, h2, h3⟩ := hD
  refine w_aload_n d_A_noteChange_0 rfl ?_
  refine w_getf g_A_51 d_A_noteChange_1 hA rfl (by decide) ?_
  refine w_vV [] c_A_289 d_A_noteChange_4 rfl hL.1 (by decide) (d_noteChange hL) (fun w hw => ?_) rfl rfl (gq rfl) (gq rfl) (gq rfl) (gq rfl) (gq rfl) (gq rfl)
  obtain ⟨hL1, hs⟩ := hw
  have hA1 : w 0 = oA a o.1 o.2.1 o.2.2 l.1 l.2 := (hs 0 (by decide)).trans hA
  have hB1 : w 75 = oB a b.1 b.2.1 b.2.2.1 := (hs 75 (by decide)).trans hB
  refine w_aload_n d_A_noteChange_7 rfl ?_
  refine w_getf g_A_67 d_A_noteChange_8 hA1 rfl (by decide) ?_
  refine w_iload_n d_A_noteChange_11 rfl ?_
  refine w_vV [_] c_A_291 d_A_noteChange_12 rfl hB1 (by decide) (b_noteChange hB1 hr hh hbl) (fun w hw => ?_) rfl rfl (gq rfl) (gq rfl) (gq rfl) (gq rfl) (gq rfl) (gq rfl)
  obtain ⟨hB2, hs2⟩ := hw
  exact w_vret d_A_noteChange_15 rfl (⟨rfl, ⟨pm, D, hL1.keep (fun q q1 q2 => hs2 q (by simp; omega)), h2, h3⟩, hB2, fun q hq => (hs2 q (fun z => hq (by simp at z; simp [z]))).trans (hs q (fun z => hq (by simp at z; simp [z])))⟩)
end RQ
