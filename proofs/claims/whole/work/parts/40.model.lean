/-! The model: its whole state, by the same parts as the class's; its small methods -/
-- what was thrown, and the scratch: size, begin, end
abbrev QM : Type := Int32 × Nat × Nat × Nat
abbrev oM (a : Nat → Nat) (m : QM) (t : QT) (o : QO) (l : QL) (p : QP) (d : QD) (b : QB) (an : Nat) : va_E := .inr (11, .int m.1 :: .int (nI t.1) :: .ref (a 80) :: .ref (a 81) :: .ref (a 82) :: .ref (a 83) :: .ref (a 84) :: .int (oI b.1) :: .int (nI b.2.1) :: .int (nI b.2.2.1) :: .ref (a 85) :: .ref (a 86) :: .ref (a 87) :: .int o.1 :: .int (nI o.2.1) :: .int (nI d.1) :: .ref (a 88) :: .int (nI d.2.1) :: .int (nI o.2.2) :: .int (nI p.1) :: .ref (a 89) :: .ref (a 90) :: .int (nI p.2.2.2.1) :: .ref (a 91) :: .int (nI an) :: .int (oI l.1) :: .int l.2 :: .int (nI p.2.2.2.2.1) :: .int (nI p.2.2.2.2.2) :: .ref (a 92) :: .int (nI m.2.1) :: .int (nI m.2.2.1) :: .int (nI m.2.2.2) :: .ref (a 93) :: [])
def mF (X : gX) (c : Nat → va_E) : Prop := ∃ f1 f2, c 82 = aI X 9 f1 ∧ c 83 = aI X 9 f2 ∧ ∀ i, i < 9 → f1 i = nI (fN i) ∧ f2 i = scol i
-- the conditions of the query, and of the shapes
def cdQ (k : QC) (d : QD) (q : Nat) : QC := if q = 0 then k else ((d.2.2 (q - 1)).1, (d.2.2 (q - 1)).2.1, (d.2.2 (q - 1)).2.2.1)
def mcA (KK FF TT : Nat → Int32) (q : Nat) (k : QC) : Prop := ∀ j, j < 3 → KK (3 * q + j) = k.1 j ∧ FF (3 * q + j) = k.2.1 j ∧ (if KK (3 * q + j) = 1 then FF (3 * q + j) else TT (3 * q + j)) = k.2.2 j
def mC (X : gX) (c : Nat → va_E) (k : QC) (d : QD) : Prop := ∃ KK FF TT, c 85 = aI X 27 KK ∧ c 86 = aI X 27 FF ∧ c 87 = aI X 27 TT ∧ ∀ q, q ≤ d.1 → mcA KK FF TT q (cdQ k d q)
def mW (X : gX) (c : Nat → va_E) (d : QD) : Prop := ∃ WW, c 88 = aI X 8 WW ∧ ∀ i, i < d.1 → WW i = nI (d.2.2 i).2.2.2
-- the model's number of a page, by the class's
def mof : Option Nat → Nat
  | none => 9
  | some i => i
def cod (x : Int32) : Int32 := if x = -1 then -1 else nI (10000 * (if x.toNatClampNeg / 64 = 0 then 9 else x.toNatClampNeg / 64 - 1) + 100 * (x.toNatClampNeg / 16 % 4) + x.toNatClampNeg % 16)
def mP (X : gX) (c : Nat → va_E) (p : QP) : Prop := ∃ PP MM, c 89 = aI X 16 PP ∧ c 90 = aZ X 16 MM ∧ ∀ f, f < p.1 → PP f = cod (p.2.1 f) ∧ MM f = p.2.2.1 f
def mA (X : gX) (c : Nat → va_E) (r : List Nat) : Prop := ∃ AA, c 91 = aI X 64 AA ∧ lay AA 0 r
def mE (X : gX) (c : Nat → va_E) : Prop := (∃ EE, c 92 = aI X 64 EE) ∧ ∃ CC, c 93 = aI X 73 CC
def mdl (X : gX) (a : Nat → Nat) (c : Nat → va_E) (th : Int32) (t : QT) (k : QC) (o : QO) (l : QL) (p : QP) (d : QD) (b : QB) (r : List Nat) : Prop :=
  (∃ sc, c 79 = oM a (th, sc) t o l p d b r.length) ∧ c 80 = aZ X 64 t.2.2 ∧ c 81 = aI X 192 t.2.1 ∧ mF X c ∧ c 84 = aI X 9 b.2.2.2 ∧ mC X c k d ∧ mW X c d ∧ mP X c p ∧ mA X c r ∧ mE X c
def sameM (c w : Nat → va_E) : Prop := ∀ p, (p < 79 ∨ 93 < p) → w p = c p
theorem sameM_rf {c : Nat → va_E} : sameM c c := fun _ _ => rfl
theorem sameM_of {c w : Nat → va_E} {l : List Nat} (h : same c w l) (hl : ∀ x ∈ l, 79 ≤ x ∧ x ≤ 93) : sameM c w := fun p hp => h p (fun z => by have := hl p z; omega)
theorem sameM_t {c d w : Nat → va_E} (h1 : sameM c d) (h2 : sameM d w) : sameM c w := fun p hp => (h2 p hp).trans (h1 p hp)
theorem sameM_up {c : Nat → va_E} {q : Nat} {e : va_E} (h : 79 ≤ q) (h2 : q ≤ 93) : sameM c (va_up c q e) := fun p hp => va_n (by omega) rfl
section MD
variable {X : gX} {a : Nat → Nat} {c w : Nat → va_E} {th : Int32} {t : QT} {k : QC} {o : QO} {l : QL} {p : QP} {d : QD} {b : QB} {r : List Nat}
theorem mdl.M (h : mdl X a c th t k o l p d b r) : ∃ sc, c 79 = oM a (th, sc) t o l p d b r.length := h.1
theorem mdl.H (h : mdl X a c th t k o l p d b r) : c 80 = aZ X 64 t.2.2 := h.2.1
theorem mdl.V (h : mdl X a c th t k o l p d b r) : c 81 = aI X 192 t.2.1 := h.2.2.1
theorem mdl.F (h : mdl X a c th t k o l p d b r) : mF X c := h.2.2.2.1
theorem mdl.s (h : mdl X a c th t k o l p d b r) : c 84 = aI X 9 b.2.2.2 := h.2.2.2.2.1
theorem mdl.C (h : mdl X a c th t k o l p d b r) : mC X c k d := h.2.2.2.2.2.1
theorem mdl.W (h : mdl X a c th t k o l p d b r) : mW X c d := h.2.2.2.2.2.2.1
theorem mdl.P (h : mdl X a c th t k o l p d b r) : mP X c p := h.2.2.2.2.2.2.2.1
theorem mdl.A (h : mdl X a c th t k o l p d b r) : mA X c r := h.2.2.2.2.2.2.2.2.1
theorem mdl.E (h : mdl X a c th t k o l p d b r) : mE X c := h.2.2.2.2.2.2.2.2.2
theorem mF.keep (h : mF X c) (h1 : w 82 = c 82) (h2 : w 83 = c 83) : mF X w := by
  obtain ⟨f1, f2, e1, e2, e3⟩ := h
  exact ⟨f1, f2, h1.trans e1, h2.trans e2, e3⟩
theorem mC.keep (h : mC X c k d) (h1 : w 85 = c 85) (h2 : w 86 = c 86) (h3 : w 87 = c 87) : mC X w k d := by
  obtain ⟨f1, f2, f3, e1, e2, e3, e4⟩ := h
  exact ⟨f1, f2, f3, h1.trans e1, h2.trans e2, h3.trans e3, e4⟩
theorem mW.keep (h : mW X c d) (h1 : w 88 = c 88) : mW X w d := by
  obtain ⟨f1, e1, e2⟩ := h
  exact ⟨f1, h1.trans e1, e2⟩
theorem mP.keep (h : mP X c p) (h1 : w 89 = c 89) (h2 : w 90 = c 90) : mP X w p := by
  obtain ⟨f1, f2, e1, e2, e3⟩ := h
  exact ⟨f1, f2, h1.trans e1, h2.trans e2, e3⟩
theorem mA.keep (h : mA X c r) (h1 : w 91 = c 91) : mA X w r := by
  obtain ⟨f1, e1, e2⟩ := h
  exact ⟨f1, h1.trans e1, e2⟩
theorem mE.keep (h : mE X c) (h1 : w 92 = c 92) (h2 : w 93 = c 93) : mE X w := by
  obtain ⟨⟨f1, e1⟩, f2, e2⟩ := h
  exact ⟨⟨f1, h1.trans e1⟩, f2, h2.trans e2⟩
theorem mdl.part (h : mdl X a c th t k o l p d b r) {L : List Nat} (hs : same c w L) {th' : Int32} {t' : QT} {k' : QC} {o' : QO} {l' : QL} {p' : QP} {d' : QD} {b' : QB} {r' : List Nat}
    (hM : ∃ sc, w 79 = oM a (th', sc) t' o' l' p' d' b' r'.length) (hH : (80 ∉ L ∧ t'.2.2 = t.2.2) ∨ w 80 = aZ X 64 t'.2.2) (hV : (81 ∉ L ∧ t'.2.1 = t.2.1) ∨ w 81 = aI X 192 t'.2.1) (hF : 82 ∉ L ∧ 83 ∉ L) (hS : (84 ∉ L ∧ b'.2.2.2 = b.2.2.2) ∨ w 84 = aI X 9 b'.2.2.2)
    (hC : (85 ∉ L ∧ 86 ∉ L ∧ 87 ∉ L ∧ k' = k ∧ d'.1 = d.1 ∧ d'.2.2 = d.2.2) ∨ mC X w k' d') (hW : (88 ∉ L ∧ d'.1 = d.1 ∧ d'.2.2 = d.2.2) ∨ mW X w d') (hP : (89 ∉ L ∧ 90 ∉ L ∧ p'.1 = p.1 ∧ p'.2.1 = p.2.1 ∧ p'.2.2.1 = p.2.2.1) ∨ mP X w p') (hA : (91 ∉ L ∧ r' = r) ∨ mA X w r') (hE : (92 ∉ L ∧ 93 ∉ L) ∨ mE X w) : mdl X a w th' t' k' o' l' p' d' b' r' := by
  refine ⟨hM, ?_, ?_, h.F.keep (hs _ hF.1) (hs _ hF.2), ?_, ?_, ?_, ?_, ?_, ?_⟩
  · rcases hH with ⟨z, e⟩ | z
    · rw [e]; exact (hs _ z).trans h.H
    · exact z
  · rcases hV with ⟨z, e⟩ | z
    · rw [e]; exact (hs _ z).trans h.V
    · exact z
  · rcases hS with ⟨z, e⟩ | z
    · rw [e]; exact (hs _ z).trans h.s
    · exact z
  · rcases hC with ⟨z1, z2, z3, rfl, e1, e2⟩ | z
    · obtain ⟨f1, f2, f3, q1, q2, q3, q4⟩ := h.C
      refine ⟨f1, f2, f3, (hs _ z1).trans q1, (hs _ z2).trans q2, (hs _ z3).trans q3, fun q hq => ?_⟩
      have e : cdQ k' d' q = cdQ k' d q := by unfold cdQ; rw [e2]
      rw [e]
      exact q4 q (by omega)
    · exact z
  · rcases hW with ⟨z, e1, e2⟩ | z
    · obtain ⟨f1, q1, q2⟩ := h.W
      exact ⟨f1, (hs _ z).trans q1, fun i hi => by rw [e2]; exact q2 i (by omega)⟩
    · exact z
  · rcases hP with ⟨z1, z2, e1, e2, e3⟩ | z
    · obtain ⟨f1, f2, q1, q2, q3⟩ := h.P
      exact ⟨f1, f2, (hs _ z1).trans q1, (hs _ z2).trans q2, fun f hf => by rw [e2, e3]; exact q3 f (by omega)⟩
    · exact z
  · rcases hA with ⟨z, rfl⟩ | z
    · exact h.A.keep (hs _ z)
    · exact z
  · rcases hE with ⟨z1, z2⟩ | z
    · exact h.E.keep (hs _ z1) (hs _ z2)
    · exact z
-- another number thrown, other scratch
theorem mdl.thr (h : mdl X a c th t k o l p d b r) {L : List Nat} (hs : same c w L) {th' : Int32} (hM : ∃ sc, w 79 = oM a (th', sc) t o l p d b r.length) (hL : ∀ x ∈ L, x = 79 ∨ x = 92 ∨ x = 93) (hE : mE X w) : mdl X a w th' t k o l p d b r :=
  have f : ∀ q, q ≠ 79 → q ≠ 92 → q ≠ 93 → q ∉ L := fun q h1 h2 h3 z => by have := hL q z; omega
  h.part hs hM (Or.inl ⟨f _ (by decide) (by decide) (by decide), rfl⟩) (Or.inl ⟨f _ (by decide) (by decide) (by decide), rfl⟩) ⟨f _ (by decide) (by decide) (by decide), f _ (by decide) (by decide) (by decide)⟩ (Or.inl ⟨f _ (by decide) (by decide) (by decide), rfl⟩)
    (Or.inl ⟨f _ (by decide) (by decide) (by decide), f _ (by decide) (by decide) (by decide), f _ (by decide) (by decide) (by decide), rfl, rfl, rfl⟩) (Or.inl ⟨f _ (by decide) (by decide) (by decide), rfl, rfl⟩) (Or.inl ⟨f _ (by decide) (by decide) (by decide), f _ (by decide) (by decide) (by decide), rfl, rfl, rfl⟩) (Or.inl ⟨f _ (by decide) (by decide) (by decide), rfl⟩) (Or.inr hE)
theorem mdl.thr1 (h : mdl X a c th t k o l p d b r) {th' : Int32} {sc : Nat × Nat × Nat} : mdl X a (va_up c 79 (oM a (th', sc) t o l p d b r.length)) th' t k o l p d b r :=
  h.thr (L := [79]) (same_up (by simp)) ⟨sc, va_s⟩ (by simp) (h.E.keep (va_n (by decide) rfl) (va_n (by decide) rfl))
end MD
theorem opt_or (x : Option Nat) : x = none ∨ ∃ j, x = some j := by cases x with | none => exact Or.inl rfl | some j => exact Or.inr ⟨j, rfl⟩
theorem m3 (n : Nat) : (3 : Int32) * nI n = nI (3 * n) := by rw [show (3 : Int32) = nI 3 from rfl, pk_mul]
theorem bf4 {n : Nat} (h : n < 1000) : (nI n + 3) / 4 = nI (fours n) := by
  have : (3 : Int32) = nI 3 := rfl
  rw [this, nI_add, show (4 : Int32) = nI 4 from rfl, pk_div (by omega) (by decide) (by decide)]
  rfl
section MS
variable {X : gX} {a : Nat → Nat} {c w : Nat → va_E} {m : QM} {t : QT} {k : QC} {o : QO} {l : QL} {p : QP} {d : QD} {b : QB} {an : Nat}
theorem m_isV {x : Int32} : GW X a m_M_isValue 0 0 0 0 0 (lv_args 0 [.int x]) [] c (pI (fun v w => ((v = 1 ∧ isV x) ∨ (v = 0 ∧ ¬ isV x)) ∧ c = w)) := by
  refine w_iload_n d_M_isValue_0 rfl ?_
  refine w_sipush (-1000) d_M_isValue_1 (by decide) ?_
  refine w_icmp_lt 18 d_M_isValue_4 (by decide) (fun h1 => ?_) (fun h1 => ?_)
  · -- taken
    refine w_iconst 0 d_M_isValue_18 (by decide) ?_
    exact w_zret (Or.inl rfl) d_M_isValue_19 rfl ( ⟨_, rfl, Or.inr ⟨rfl, fun z => lt_nle h1 z.1⟩, rfl⟩)
  · -- not taken
    refine w_iload_n d_M_isValue_7 rfl ?_
    refine w_sipush 1000 d_M_isValue_8 (by decide) ?_
    refine w_icmp_gt 18 d_M_isValue_11 (by decide) (fun h2 => ?_) (fun h2 => ?_)
    · -- taken
      refine w_iconst 0 d_M_isValue_18 (by decide) ?_
      exact w_zret (Or.inl rfl) d_M_isValue_19 rfl ( ⟨_, rfl, Or.inr ⟨rfl, fun z => lt_nle h2 z.2⟩, rfl⟩)
    · -- not taken
      refine w_iconst 1 d_M_isValue_14 (by decide) ?_
      refine w_goto 19 d_M_isValue_15 (by decide) ?_
      exact w_zret (Or.inr rfl) d_M_isValue_19 rfl ( ⟨_, rfl, Or.inl ⟨rfl, nlt_le h1, nlt_le h2⟩, rfl⟩)
theorem m_isCol {x : Int32} : GW X a m_M_isColumn 0 0 0 0 0 (lv_args 0 [.int x]) [] c (pI (fun v w => ((v = 1 ∧ clI x) ∨ (v = 0 ∧ ¬ clI x)) ∧ c = w)) := by
  refine w_iload_n d_M_isColumn_0 rfl ?_
  refine w_if_lt 13 d_M_isColumn_1 (by decide) (fun h1 => ?_) (fun h1 => ?_)
  · -- taken
    refine w_iconst 0 d_M_isColumn_13 (by decide) ?_
    exact w_zret (Or.inl rfl) d_M_isColumn_14 rfl ( ⟨_, rfl, Or.inr ⟨rfl, fun z => by obtain ⟨j, hj, rfl⟩ := z; exact nI_n0 (by omega) h1⟩, rfl⟩)
  · -- not taken
    refine w_iload_n d_M_isColumn_4 rfl ?_
    refine w_iconst 3 d_M_isColumn_5 (by decide) ?_
    refine w_icmp_ge 13 d_M_isColumn_6 (by decide) (fun h2 => ?_) (fun h2 => ?_)
    · -- taken
      refine w_iconst 0 d_M_isColumn_13 (by decide) ?_
      exact w_zret (Or.inl rfl) d_M_isColumn_14 rfl ( ⟨_, rfl, Or.inr ⟨rfl, fun z => by obtain ⟨j, hj, rfl⟩ := z; exact lt_nle (nI_lt (b := 3) hj (by decide)) h2⟩, rfl⟩)
    · -- not taken
      refine w_iconst 1 d_M_isColumn_9 (by decide) ?_
      refine w_goto 14 d_M_isColumn_10 (by decide) ?_
      exact w_zret (Or.inr rfl) d_M_isColumn_14 rfl ( ⟨_, rfl, Or.inl ⟨rfl, nn_lt (n := 3) h1 (nle_lt h2) (by decide)⟩, rfl⟩)
theorem m_isIdx {x : Int32} : GW X a m_M_isIndex 0 0 0 0 0 (lv_args 0 [.int x]) [] c (pI (fun v w => ((v = 1 ∧ ixI x) ∨ (v = 0 ∧ ¬ ixI x)) ∧ c = w)) := by
  refine w_iload_n d_M_isIndex_0 rfl ?_
  refine w_if_lt 14 d_M_isIndex_1 (by decide) (fun h1 => ?_) (fun h1 => ?_)
  · -- taken
    refine w_iconst 0 d_M_isIndex_14 (by decide) ?_
    exact w_zret (Or.inl rfl) d_M_isIndex_15 rfl ( ⟨_, rfl, Or.inr ⟨rfl, fun z => by obtain ⟨j, hj, rfl⟩ := z; exact nI_n0 (by omega) h1⟩, rfl⟩)
  · -- not taken
    refine w_iload_n d_M_isIndex_4 rfl ?_
    refine w_bipush 9 d_M_isIndex_5 (by decide) ?_
    refine w_icmp_ge 14 d_M_isIndex_7 (by decide) (fun h2 => ?_) (fun h2 => ?_)
    · -- taken
      refine w_iconst 0 d_M_isIndex_14 (by decide) ?_
      exact w_zret (Or.inl rfl) d_M_isIndex_15 rfl ( ⟨_, rfl, Or.inr ⟨rfl, fun z => by obtain ⟨j, hj, rfl⟩ := z; exact lt_nle (nI_lt (b := 9) hj (by decide)) h2⟩, rfl⟩)
    · -- not taken
      refine w_iconst 1 d_M_isIndex_10 (by decide) ?_
      refine w_goto 15 d_M_isIndex_11 (by decide) ?_
      exact w_zret (Or.inr rfl) d_M_isIndex_15 rfl ( ⟨_, rfl, Or.inl ⟨rfl, nn_lt (n := 9) h1 (nle_lt h2) (by decide)⟩, rfl⟩)
theorem m_isRow {x : Int32} (hM : c 79 = oM a m t o l p d b an) (hH : c 80 = aZ X 64 t.2.2) (hi : t.1 ≤ 64) : GW X a m_M_isRow 0 0 0 0 0 (lv_args 0 [.ref (a 79), .int x]) [] c (pI (fun v w => ((v = 1 ∧ rwI t x) ∨ (v = 0 ∧ ¬ rwI t x)) ∧ c = w)) := by
  refine w_iload_n d_M_isRow_0 rfl ?_
  refine w_if_lt 25 d_M_isRow_1 (by decide) (fun h1 => ?_) (fun h1 => ?_)
  · -- taken
    refine w_iconst 0 d_M_isRow_25 (by decide) ?_
    exact w_zret (Or.inl rfl) d_M_isRow_26 rfl ( ⟨_, rfl, Or.inr ⟨rfl, fun z => by obtain ⟨j, hj, rfl, -⟩ := z; exact nI_n0 (by omega) h1⟩, rfl⟩)
  · -- not taken
    refine w_iload_n d_M_isRow_4 rfl ?_
    refine w_aload_n d_M_isRow_5 rfl ?_
    refine w_getf g_M_75 d_M_isRow_6 hM rfl (by decide) ?_
    refine w_icmp_ge 25 d_M_isRow_9 (by decide) (fun h2 => ?_) (fun h2 => ?_)
    · -- taken
      refine w_iconst 0 d_M_isRow_25 (by decide) ?_
      exact w_zret (Or.inl rfl) d_M_isRow_26 rfl ( ⟨_, rfl, Or.inr ⟨rfl, fun z => by obtain ⟨j, hj, rfl, -⟩ := z; exact lt_nle (nI_lt hj (by omega)) h2⟩, rfl⟩)
    · -- not taken
      obtain ⟨j, hj, rfl⟩ := nn_lt h1 (nle_lt h2) (by omega)
      refine w_aload_n d_M_isRow_12 rfl ?_
      refine w_getf g_M_7 d_M_isRow_13 hM rfl (by decide) ?_
      refine w_iload_n d_M_isRow_16 rfl ?_
      refine w_zald d_M_isRow_17 hH rfl (by omega) (by decide) (by decide) ?_
      refine w_if_eq 25 d_M_isRow_18 (by decide) (fun h3 => ?_) (fun h3 => ?_)
      · -- taken
        refine w_iconst 0 d_M_isRow_25 (by decide) ?_
        exact w_zret (Or.inl rfl) d_M_isRow_26 rfl ( ⟨_, rfl, Or.inr ⟨rfl, fun z => by obtain ⟨i, hi', e, h4⟩ := z; cases (nI_eq (by omega) (by omega)).mp e; exact h4 h3⟩, rfl⟩)
      · -- not taken
        refine w_iconst 1 d_M_isRow_21 (by decide) ?_
        refine w_goto 26 d_M_isRow_22 (by decide) ?_
        exact w_zret (Or.inr rfl) d_M_isRow_26 rfl ( ⟨_, rfl, Or.inl ⟨rfl, j, hj, rfl, h3⟩, rfl⟩)
theorem m_heapPages (hM : c 79 = oM a m t o l p d b an) (hi : t.1 ≤ 64) : GW X a m_M_heapPages 0 0 0 0 0 (lv_args 0 [.ref (a 79)]) [] c (pI (eI (nI (fours t.1)) c)) := by
  refine w_aload_n d_M_heapPages_0 rfl ?_
  refine w_getf g_M_75 d_M_heapPages_1 hM rfl (by decide) ?_
  refine w_iconst 3 d_M_heapPages_4 (by decide) ?_
  refine w_iadd d_M_heapPages_5 ?_
  refine w_iconst 4 d_M_heapPages_6 (by decide) ?_
  refine w_idiv d_M_heapPages_7 (by decide) ?_
  rw [bf4 (by omega)]
  exact w_iret d_M_heapPages_8 rfl (⟨_, rfl, rfl, rfl⟩)
theorem m_byFour {n : Nat} (hn : n < 1000) : GW X a m_M_byFour 0 0 0 0 0 (lv_args 0 [.int (nI n)]) [] c (pI (eI (nI (fours n)) c)) := by
  refine w_iload_n d_M_byFour_0 rfl ?_
  refine w_iconst 3 d_M_byFour_1 (by decide) ?_
  refine w_iadd d_M_byFour_2 ?_
  refine w_iconst 4 d_M_byFour_3 (by decide) ?_
  refine w_idiv d_M_byFour_4 (by decide) ?_
  rw [bf4 hn]
  exact w_iret d_M_byFour_5 rfl (⟨_, rfl, rfl, rfl⟩)
theorem m_thrown (hM : c 79 = oM a m t o l p d b an) : GW X a m_M_thrown 0 0 0 0 0 (lv_args 0 [.ref (a 79)]) [] c (pI (eI m.1 c)) := by
  refine w_aload_n d_M_thrown_0 rfl ?_
  refine w_getf g_M_72 d_M_thrown_1 hM rfl (by decide) ?_
  exact w_iret d_M_thrown_4 rfl (⟨_, rfl, rfl, rfl⟩)
end MS
