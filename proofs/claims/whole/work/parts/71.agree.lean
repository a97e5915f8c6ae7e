/-! The law: one call of the class, the same call of the model, and their answers compared -/
abbrev PL : gO → (Nat → va_E) → Prop := fun r _ => r = .inl (some (.int 1))
-- class and model hold the same after n calls
def lwI (X : gX) (a : Nat → Nat) (w : Nat → va_E) (n : Nat) : Prop := ∃ (t : QT) (k : QC) (o : QO) (l : QL) (p : QP) (d : QD) (b : QB) (r : List Nat) (th : Int32) (u : Nat → Int64), cls X a w t k o l p d b r ∧ mdl X a w th t k o l p d b r ∧ okQ n t k o l p d b r ∧ w 94 = aJ X 1 u
-- both have answered alike
def agr (X : gX) (a : Nat → Nat) (w : Nat → va_E) (n : Nat) (v : Int32) (Q : Int64 → Prop) : Prop := ∃ (t : QT) (k : QC) (o : QO) (l : QL) (p : QP) (d : QD) (b : QB) (r : List Nat) (u : Nat → Int64), cls X a w t k o l p d b r ∧ mdl X a w v t k o l p d b r ∧ okQ (n + 1) t k o l p d b r ∧ w 94 = aJ X 1 u ∧ (v = 0 → Q (u 0))
theorem nI_e {x : Int32} {i j : Nat} (h1 : x = nI i) (h2 : x = nI j) (hi : i < 2 ^ 31) (hj : j < 2 ^ 31) : i = j := (nI_eq hi hj).mp (h1.symm.trans h2)
theorem oI_e {q q' : Option Nat} (h : oI q = oI q') (h1 : ∀ j, q = some j → j < 9) (h2 : ∀ j, q' = some j → j < 9) : q = q' := by
  cases q with
  | none => cases q' with
    | none => rfl
    | some j => exact absurd h.symm (nI_neg (by have := h2 j rfl; omega))
  | some i => cases q' with
    | none => exact absurd h (nI_neg (by have := h1 i rfl; omega))
    | some j => rw [(nI_eq (by have := h1 i rfl; omega) (by have := h2 j rfl; omega)).mp h]
theorem oI_o {x : Int32} {q : Option Nat} (h : x = oI q) (h1 : ∀ j, q = some j → j < 9) : x = -1 ∨ ixI x := by
  cases q with
  | none => exact Or.inl h
  | some j => exact Or.inr ⟨j, h1 j rfl, h⟩
theorem sel4 {x y z A B C D : Int32} (h1 : (x = 0 ∧ y = A) ∨ (x = 1 ∧ y = B) ∨ (x = 2 ∧ y = C) ∨ (x = 3 ∧ y = D)) (h2 : (x = 0 ∧ z = A) ∨ (x = 1 ∧ z = B) ∨ (x = 2 ∧ z = C) ∨ (x = 3 ∧ z = D)) : y = z := by
  rcases h1 with ⟨e, f⟩ | ⟨e, f⟩ | ⟨e, f⟩ | ⟨e, f⟩ <;> rcases h2 with ⟨e', f'⟩ | ⟨e', f'⟩ | ⟨e', f'⟩ | ⟨e', f'⟩ <;> first | exact f.trans f'.symm | exact absurd (e.symm.trans e') (by decide)
theorem sel3 {x y z A B C : Int32} (h1 : (x = 0 ∧ y = A) ∨ (x = 1 ∧ y = B) ∨ (x = 2 ∧ y = C)) (h2 : (x = 0 ∧ z = A) ∨ (x = 1 ∧ z = B) ∨ (x = 2 ∧ z = C)) : y = z := by
  rcases h1 with ⟨e, f⟩ | ⟨e, f⟩ | ⟨e, f⟩ <;> rcases h2 with ⟨e', f'⟩ | ⟨e', f'⟩ | ⟨e', f'⟩ <;> first | exact f.trans f'.symm | exact absurd (e.symm.trans e') (by decide)
theorem sel4o {x y A B C D : Int32} (h : (x = 0 ∧ y = A) ∨ (x = 1 ∧ y = B) ∨ (x = 2 ∧ y = C) ∨ (x = 3 ∧ y = D)) : x = 0 ∨ x = 1 ∨ x = 2 ∨ x = 3 := h.imp And.left (fun h => h.imp And.left (fun h => h.imp And.left And.left))
theorem sel3o {x y A B C : Int32} (h : (x = 0 ∧ y = A) ∨ (x = 1 ∧ y = B) ∨ (x = 2 ∧ y = C)) : x = 0 ∨ x = 1 ∨ x = 2 := h.imp And.left (fun h => h.imp And.left And.left)
section AG
variable {X : gX} {a : Nat → Nat} {c w w2 : Nat → va_E} {t : QT} {k : QC} {o : QO} {l : QL} {p : QP} {d : QD} {b : QB} {r : List Nat} {n : Nat} {u : Nat → Int64} {th v : Int32} {Q : Int64 → Prop}
theorem mdl.keepL (h : mdl X a c th t k o l p d b r) (hs : sameL c w) : mdl X a w th t k o l p d b r := by
  obtain ⟨sc, e⟩ := h.M
  have f : ∀ q, 78 < q → q ≠ 94 → w q = c q := hs
  exact ⟨⟨sc, (f 79 (by decide) (by decide)).trans e⟩, (f 80 (by decide) (by decide)).trans h.H, (f 81 (by decide) (by decide)).trans h.V, h.F.keep (f 82 (by decide) (by decide)) (f 83 (by decide) (by decide)), (f 84 (by decide) (by decide)).trans h.s, h.C.keep (f 85 (by decide) (by decide)) (f 86 (by decide) (by decide)) (f 87 (by decide) (by decide)), h.W.keep (f 88 (by decide) (by decide)), h.P.keep (f 89 (by decide) (by decide)) (f 90 (by decide) (by decide)), h.A.keep (f 91 (by decide) (by decide)), h.E.keep (f 92 (by decide) (by decide)) (f 93 (by decide) (by decide))⟩
theorem ag (hs : sameM w w2) (hc : cls X a w t k o l p d b r) (hm : mdl X a w2 v t k o l p d b r) (ok : okQ (n + 1) t k o l p d b r) (hO : w 94 = aJ X 1 u) (hq : v = 0 → Q (u 0)) : agr X a w2 n v Q :=
  ⟨t, k, o, l, p, d, b, r, u, hc.keep (fun q hq => hs q (Or.inl (by omega))), hm, ok, (hs 94 (Or.inr (by decide))).trans hO, hq⟩
end AG
