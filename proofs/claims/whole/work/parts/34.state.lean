/-! The class's whole state, and what it always keeps -/
abbrev S4 : Type := (Nat → Int32) × (Nat → Int32) × (Nat → Int32) × Nat
-- rows: how many, values, there; conditions; order, limit, budget; the last way and its cost; frames and pool; shapes, changes, what they hold; building, handled, side, states
abbrev QT : Type := Nat × (Nat → Int32) × (Nat → Int32)
abbrev QC : Type := (Nat → Int32) × (Nat → Int32) × (Nat → Int32)
abbrev QO : Type := Int32 × Nat × Nat
abbrev QL : Type := Option Nat × Int32
abbrev QP : Type := Nat × PS
abbrev QD : Type := Nat × Nat × SH
abbrev QB : Type := Option Nat × Nat × Nat × (Nat → Int32)
abbrev liv (t : QT) : Nat := (liveL t.2.2 t.1).length
def eqS (A B : S4) : Prop := (∀ j, j < 3 → A.1 j = B.1 j ∧ A.2.1 j = B.2.1 j ∧ A.2.2.1 j = B.2.2.1 j) ∧ A.2.2.2 = B.2.2.2
def ldg (X : gX) (a : Nat → Nat) (c : Nat → va_E) (d : QD) : Prop := ∃ pm D, led X a c d.1 d.2.1 pm D ∧ (∀ i, i < d.1 → eqS (d.2.2 i) (D (pm i))) ∧ ∀ i, d.1 ≤ i → i < 8 → (D (pm i)).2.2.2 = 0
def cls (X : gX) (a : Nat → Nat) (c : Nat → va_E) (t : QT) (k : QC) (o : QO) (l : QL) (p : QP) (d : QD) (b : QB) (r : List Nat) : Prop :=
  c 0 = oA a o.1 o.2.1 o.2.2 l.1 l.2 ∧ c 1 = oT a t.1 (liv t) ∧ c 2 = aI X 192 t.2.1 ∧ c 3 = aZ X 64 t.2.2 ∧ cnd X a c 4 k.1 k.2.1 k.2.2 ∧ stA X a c ∧ (∃ hp g, c 11 = oW a 11 hp ∧ c 12 = aI X 9 g) ∧ pol X a c p.1 p.2 ∧
    ldg X a c d ∧ c 74 = oV a ∧ c 75 = oB a b.1 b.2.1 b.2.2.1 ∧ c 76 = aI X 9 b.2.2.2 ∧ c 77 = oR a 77 r.length ∧ ∃ fr, c 78 = aI X 64 fr ∧ lay fr 0 r
-- kinds are 0, 1, 2; a 'to' of the kind 1 is its 'from'
def kOk (K F T : Nat → Int32) : Prop := ∀ j, j < 3 → (K j = 0 ∨ K j = 1 ∨ K j = 2) ∧ toK K F T j = T j
-- page codes of the class
def pOk (nF : Nat) (P : PS) : Prop := ∀ i, i < nF → P.1 i = -1 ∨ ∃ o l pl, P.1 i = nI (pgN o l pl) ∧ (∀ j, o = some j → j < 9) ∧ l < 4 ∧ pl < 16
-- after n calls
def okQ (n : Nat) (t : QT) (k : QC) (o : QO) (l : QL) (p : QP) (d : QD) (b : QB) (r : List Nat) : Prop :=
  t.1 ≤ 64 ∧ kOk k.1 k.2.1 k.2.2 ∧ (isCol o.1 ∧ o.2.1 ≤ 64 ∧ o.2.2 ≤ 200) ∧ (∀ i, l.1 = some i → i < 9) ∧ (2 ≤ p.1 ∧ p.1 ≤ 16 ∧ p.2.2.2.1 < p.1 ∧ pOk p.1 p.2) ∧
    (d.1 ≤ 8 ∧ d.2.1 ≤ 4 * n ∧ ∀ i, i < d.1 → (d.2.2 i).2.2.2 ≤ 16 * n ∧ kOk (d.2.2 i).1 (d.2.2 i).2.1 (d.2.2 i).2.2.1) ∧ ((∀ j, b.1 = some j → j < 9) ∧ b.2.1 ≤ t.1 ∧ b.2.2.1 ≤ n ∧ ∀ j, b.1 = some j → ¬ b.2.2.2 j = 0) ∧ (r.length ≤ 64 ∧ ∀ x ∈ r, x < 64) ∧ n ≤ 600
-- what of the class's places has been changed
def sameA (c w : Nat → va_E) : Prop := ∀ p, 78 < p → w p = c p
theorem sameA_rf {c : Nat → va_E} : sameA c c := fun _ _ => rfl
theorem sameA_of {c w : Nat → va_E} {l : List Nat} (h : same c w l) (hl : ∀ x ∈ l, x ≤ 78) : sameA c w := fun p hp => h p (fun z => by have := hl p z; omega)
theorem sameA_r {c w : Nat → va_E} {lo hi : Nat} (h : sameR c w lo hi) (hl : hi ≤ 78) : sameA c w := fun p hp => h p (by omega)
theorem sameA_t {c d w : Nat → va_E} (h1 : sameA c d) (h2 : sameA d w) : sameA c w := fun p hp => (h2 p hp).trans (h1 p hp)
theorem sameA_up {c : Nat → va_E} {q : Nat} {e : va_E} (h : q ≤ 78) : sameA c (va_up c q e) := fun p hp => va_n (by omega) rfl
theorem ldg.keep {X : gX} {a : Nat → Nat} {c w : Nat → va_E} {d : QD} (h : ldg X a c d) (hs : ∀ p, 16 ≤ p → p ≤ 73 → w p = c p) : ldg X a w d := by
  obtain ⟨pm, D, h1, h2⟩ := h
  exact ⟨pm, D, h1.keep hs, h2⟩
theorem pol.keep {X : gX} {a : Nat → Nat} {c w : Nat → va_E} {nF : Nat} {P : PS} (h : pol X a c nF P) (hs : ∀ p, 13 ≤ p → p ≤ 15 → w p = c p) : pol X a w nF P := ⟨(hs 13 (by omega) (by omega)).trans h.1, (hs 14 (by omega) (by omega)).trans h.2.1, (hs 15 (by omega) (by omega)).trans h.2.2⟩
theorem cnd.keep {X : gX} {a : Nat → Nat} {c w : Nat → va_E} {q : Nat} {K F T : Nat → Int32} (h : cnd X a c q K F T) (hs : ∀ p, q ≤ p → p ≤ q + 3 → w p = c p) : cnd X a w q K F T :=
  ⟨(hs _ (by omega) (by omega)).trans h.1, (hs _ (by omega) (by omega)).trans h.2.1, (hs _ (by omega) (by omega)).trans h.2.2.1, (hs _ (by omega) (by omega)).trans h.2.2.2⟩
section CL
variable {X : gX} {a : Nat → Nat} {c w : Nat → va_E} {t : QT} {k : QC} {o : QO} {l : QL} {p : QP} {d : QD} {b : QB} {r : List Nat}
theorem cls.A (h : cls X a c t k o l p d b r) : c 0 = oA a o.1 o.2.1 o.2.2 l.1 l.2 := h.1
theorem cls.T (h : cls X a c t k o l p d b r) : c 1 = oT a t.1 (liv t) := h.2.1
theorem cls.V (h : cls X a c t k o l p d b r) : c 2 = aI X 192 t.2.1 := h.2.2.1
theorem cls.H (h : cls X a c t k o l p d b r) : c 3 = aZ X 64 t.2.2 := h.2.2.2.1
theorem cls.C (h : cls X a c t k o l p d b r) : cnd X a c 4 k.1 k.2.1 k.2.2 := h.2.2.2.2.1
theorem cls.S (h : cls X a c t k o l p d b r) : stA X a c := h.2.2.2.2.2.1
theorem cls.W (h : cls X a c t k o l p d b r) : ∃ hp g, c 11 = oW a 11 hp ∧ c 12 = aI X 9 g := h.2.2.2.2.2.2.1
theorem cls.P (h : cls X a c t k o l p d b r) : pol X a c p.1 p.2 := h.2.2.2.2.2.2.2.1
theorem cls.D (h : cls X a c t k o l p d b r) : ldg X a c d := h.2.2.2.2.2.2.2.2.1
theorem cls.O (h : cls X a c t k o l p d b r) : c 74 = oV a := h.2.2.2.2.2.2.2.2.2.1
theorem cls.B (h : cls X a c t k o l p d b r) : c 75 = oB a b.1 b.2.1 b.2.2.1 := h.2.2.2.2.2.2.2.2.2.2.1
theorem cls.s (h : cls X a c t k o l p d b r) : c 76 = aI X 9 b.2.2.2 := h.2.2.2.2.2.2.2.2.2.2.2.1
theorem cls.R (h : cls X a c t k o l p d b r) : c 77 = oR a 77 r.length := h.2.2.2.2.2.2.2.2.2.2.2.2.1
theorem cls.fr (h : cls X a c t k o l p d b r) : ∃ fr, c 78 = aI X 64 fr ∧ lay fr 0 r := h.2.2.2.2.2.2.2.2.2.2.2.2.2
-- a part is new, the others are as they were
theorem cls.keep (h : cls X a c t k o l p d b r) (hs : ∀ q, q ≤ 78 → w q = c q) : cls X a w t k o l p d b r := by
  obtain ⟨hp, g, w1, w2⟩ := h.W
  obtain ⟨fr, f1, f2⟩ := h.fr
  exact ⟨(hs _ (by omega)).trans h.A, (hs _ (by omega)).trans h.T, (hs _ (by omega)).trans h.V, (hs _ (by omega)).trans h.H, h.C.keep (fun q _ _ => hs q (by omega)), h.S.keep (hs _ (by omega)) (hs _ (by omega)) (hs _ (by omega)), ⟨hp, g, (hs _ (by omega)).trans w1, (hs _ (by omega)).trans w2⟩, h.P.keep (fun q _ _ => hs q (by omega)), h.D.keep (fun q _ _ => hs q (by omega)), (hs _ (by omega)).trans h.O, (hs _ (by omega)).trans h.B, (hs _ (by omega)).trans h.s, (hs _ (by omega)).trans h.R, fr, (hs _ (by omega)).trans f1, f2⟩
theorem cls.part (h : cls X a c t k o l p d b r) {L : List Nat} (hs : same c w L) {t' : QT} {k' : QC} {o' : QO} {l' : QL} {p' : QP} {d' : QD} {b' : QB} {r' : List Nat}
    (hA : 0 ∉ L ∧ o' = o ∧ l' = l ∨ w 0 = oA a o'.1 o'.2.1 o'.2.2 l'.1 l'.2) (hT : (1 ∉ L ∧ 2 ∉ L ∧ 3 ∉ L ∧ t' = t) ∨ (w 1 = oT a t'.1 (liv t') ∧ w 2 = aI X 192 t'.2.1 ∧ w 3 = aZ X 64 t'.2.2)) (hC : (4 ∉ L ∧ 5 ∉ L ∧ 6 ∉ L ∧ 7 ∉ L ∧ k' = k) ∨ cnd X a w 4 k'.1 k'.2.1 k'.2.2)
    (hS : (8 ∉ L ∧ 9 ∉ L ∧ 10 ∉ L) ∨ stA X a w) (hW : (11 ∉ L ∧ 12 ∉ L) ∨ ∃ hp g, w 11 = oW a 11 hp ∧ w 12 = aI X 9 g) (hP : (13 ∉ L ∧ 14 ∉ L ∧ 15 ∉ L ∧ p' = p) ∨ pol X a w p'.1 p'.2)
    (hD : ((∀ q, 16 ≤ q → q ≤ 73 → q ∉ L) ∧ d' = d) ∨ ldg X a w d') (hO : 74 ∉ L) (hB : (75 ∉ L ∧ 76 ∉ L ∧ b' = b) ∨ (w 75 = oB a b'.1 b'.2.1 b'.2.2.1 ∧ w 76 = aI X 9 b'.2.2.2)) (hR : (77 ∉ L ∧ 78 ∉ L ∧ r' = r) ∨ (w 77 = oR a 77 r'.length ∧ ∃ fr, w 78 = aI X 64 fr ∧ lay fr 0 r')) : cls X a w t' k' o' l' p' d' b' r' := by
  obtain ⟨hp, g, w1, w2⟩ := h.W
  obtain ⟨fr, f1, f2⟩ := h.fr
  refine ⟨?_, ?_, ?_, ?_, ?_, ?_, ?_, ?_, ?_, (hs 74 hO).trans h.O, ?_, ?_, ?_, ?_⟩
  · rcases hA with ⟨z, rfl, rfl⟩ | z
    · exact (hs 0 z).trans h.A
    · exact z
  · rcases hT with ⟨z, -, -, rfl⟩ | z
    · exact (hs 1 z).trans h.T
    · exact z.1
  · rcases hT with ⟨-, z, -, rfl⟩ | z
    · exact (hs 2 z).trans h.V
    · exact z.2.1
  · rcases hT with ⟨-, -, z, rfl⟩ | z
    · exact (hs 3 z).trans h.H
    · exact z.2.2
  · rcases hC with ⟨z1, z2, z3, z4, rfl⟩ | z
    · exact h.C.same hs ⟨z1, z2, z3, z4⟩
    · exact z
  · rcases hS with ⟨z1, z2, z3⟩ | z
    · exact h.S.keep (hs _ z1) (hs _ z2) (hs _ z3)
    · exact z
  · rcases hW with ⟨z1, z2⟩ | z
    · exact ⟨hp, g, (hs _ z1).trans w1, (hs _ z2).trans w2⟩
    · exact z
  · rcases hP with ⟨z1, z2, z3, rfl⟩ | z
    · exact ⟨(hs _ z1).trans h.P.1, (hs _ z2).trans h.P.2.1, (hs _ z3).trans h.P.2.2⟩
    · exact z
  · rcases hD with ⟨z, rfl⟩ | z
    · exact h.D.keep (fun q q1 q2 => hs q (z q q1 q2))
    · exact z
  · rcases hB with ⟨z, -, rfl⟩ | z
    · exact (hs _ z).trans h.B
    · exact z.1
  · rcases hB with ⟨-, z, rfl⟩ | z
    · exact (hs _ z).trans h.s
    · exact z.2
  · rcases hR with ⟨z, -, rfl⟩ | z
    · exact (hs _ z).trans h.R
    · exact z.1
  · rcases hR with ⟨-, z, rfl⟩ | z
    · exact ⟨fr, (hs _ z).trans f1, f2⟩
    · exact z.2
end CL
-- a map of 0 .. n-1 into itself that keeps apart meets each
theorem onto_of : ∀ (n : Nat) (f : Nat → Nat), (∀ i, i < n → f i < n) → (∀ i j, i < n → j < n → f i = f j → i = j) → ∀ j, j < n → ∃ i, i < n ∧ f i = j
  | 0, _, _, _, j, hj => absurd hj (Nat.not_lt_zero j)
  | n + 1, f, h1, h2, j, hj => by
    have g1 : ∀ i, i < n → (if f i = n then f n else f i) < n := fun i hi => by
      have q1 := h1 i (by omega)
      have q2 := h1 n (by omega)
      split
      · rename_i e
        have : f n ≠ n := fun z => by have := h2 i n (by omega) (by omega) (e.trans z.symm); omega
        omega
      · omega
    have g2 : ∀ i i', i < n → i' < n → (if f i = n then f n else f i) = (if f i' = n then f n else f i') → i = i' := fun i i' hi hi' e => by
      split at e
      · split at e
        · rename_i e1 e2
          exact h2 i i' (by omega) (by omega) (e1.trans e2.symm)
        · have := h2 n i' (by omega) (by omega) e
          omega
      · split at e
        · have := h2 i n (by omega) (by omega) e
          omega
        · exact h2 i i' (by omega) (by omega) e
    have ih := onto_of n (fun i => if f i = n then f n else f i) g1 g2
    by_cases hjn : j = n
    · by_cases hm : f n = n
      · exact ⟨n, by omega, by omega⟩
      · obtain ⟨i, hi, e⟩ := ih (f n) (by have := h1 n (by omega); omega)
        split at e
        · rename_i e1
          exact ⟨i, by omega, by omega⟩
        · have := h2 i n (by omega) (by omega) e
          omega
    · obtain ⟨i, hi, e⟩ := ih j (by omega)
      split at e
      · exact ⟨n, by omega, e⟩
      · exact ⟨i, by omega, e⟩
theorem perm.onto {pm : Nat → Nat} (h : perm pm) {j : Nat} (hj : j < 8) : ∃ i, i < 8 ∧ pm i = j := onto_of 8 pm h.1 h.2 j hj
-- only the first three of a condition's numbers count
theorem fit_c {K F T K' F' T' : Nat → Int32} (h : ∀ j, j < 3 → K j = K' j ∧ F j = F' j ∧ T j = T' j) {j : Nat} (hj : j < 3) (x : Int32) : fitB K F T j x = fitB K' F' T' j x := by
  unfold fitB
  rw [(h j hj).1, (h j hj).2.1, (h j hj).2.2]
theorem fN_l (i : Nat) : fN i < 3 := by
  unfold fN
  rcases Nat.lt_or_ge i 9 with h | h
  · have : ∀ i, i < 9 → ([0, 1, 2, 0, 0, 1, 1, 2, 2] : List Nat).getD i 0 < 3 := by decide
    exact this i h
  · rw [List.getD_eq_getElem?_getD, List.getElem?_eq_none (by simpa using h)]; decide
theorem sc_l (i : Nat) : (scol i).toNatClampNeg < 3 := by
  unfold scol
  rcases Nat.lt_or_ge i 9 with h | h
  · have : ∀ i, i < 9 → (([-1, -1, -1, 1, 2, 0, 2, 0, 1] : List Int32).getD i 0).toNatClampNeg < 3 := by decide
    exact this i h
  · rw [List.getD_eq_getElem?_getD, List.getElem?_eq_none (by simpa using h)]; decide
theorem cost_c {K F T K' F' T' : Nat → Int32} (hh : ∀ j, j < 3 → K j = K' j ∧ F j = F' j ∧ T j = T' j) (h v : Nat → Int32) (ins rt i : Nat) : costX h v K F T ins rt i = costX h v K' F' T' ins rt i := by
  have f1 : (nI (fN i)).toNatClampNeg = fN i := nI_c (fN_l i)
  have s1 : secB K i = secB K' i := by unfold secB; rw [(hh _ (fN_l i)).1, (hh _ (sc_l i)).1]
  have b1 : stB v F K i = stB v F' K' i := by
    funext r
    unfold stB befB
    rw [s1, f1, (hh _ (fN_l i)).2.1, (hh _ (sc_l i)).2.1]
  have i1 : stI v K F T i = stI v K' F' T' i := by
    funext r
    unfold stI insB
    rw [b1, s1, f1, fit_c hh (fN_l i), fit_c hh (sc_l i)]
  unfold costX costN bfI inI
  rw [b1, i1, (hh _ (fN_l i)).1]
theorem kc_c {K K' : Nat → Int32} (hh : ∀ j, j < 3 → K j = K' j) : kc K = kc K' := by unfold kc; rw [hh 0 (by decide), hh 1 (by decide), hh 2 (by decide)]
theorem ls_c {A B : S4} (e : eqS A B) (h v : Nat → Int32) (ins rt m : Nat) : lsS h v ins rt m A = lsS h v ins rt m B := by
  unfold lsS
  rw [show costX h v A.1 A.2.1 A.2.2.1 ins rt = costX h v B.1 B.2.1 B.2.2.1 ins rt from funext (fun i => cost_c e.1 h v ins rt i)]
-- how many rows are there
theorem upd_s {f : Nat → Int32} {k : Nat} {x : Int32} : upd f k x k = x := by simp [upd]
theorem upd_n {f : Nat → Int32} {k j : Nat} {x : Int32} (h : j ≠ k) : upd f k x j = f j := by simp [upd, h]
theorem live_add {h : Nat → Int32} {k : Nat} : liveL (upd h k 1) (k + 1) = liveL h k ++ [k] := by
  rw [liveL_s, if_neg (by rw [upd_s]; decide)]
  congr 1
  unfold liveL
  refine List.filter_congr (fun x hx => ?_)
  rw [upd_n (by have := List.mem_range.mp hx; omega)]
theorem live_del {h : Nat → Int32} {r : Nat} (hr : ¬ h r = 0) : ∀ {k : Nat}, r < k → (liveL (upd h r 0) k).length + 1 = (liveL h k).length
  | 0, hk => absurd hk (Nat.not_lt_zero r)
  | k + 1, hk => by
    rw [liveL_s, liveL_s]
    by_cases e : r = k
    · subst e
      rw [upd_s, if_pos rfl, if_neg hr, List.length_append]
      have : liveL (upd h r 0) r = liveL h r := by
        unfold liveL
        refine List.filter_congr (fun x hx => ?_)
        rw [upd_n (by have := List.mem_range.mp hx; omega)]
      rw [this]; rfl
    · rw [upd_n (fun z => e z.symm)]
      have ih := live_del hr (k := k) (by omega)
      split
      · exact ih
      · rw [List.length_append, List.length_append]
        simp only [List.length_singleton]
        omega
