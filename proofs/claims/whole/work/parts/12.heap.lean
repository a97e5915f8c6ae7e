/-! The rules of G for fields and arrays -/
def gLk (own : String) (idx : Nat) (C n d : String) : Prop := Cond.fieldLink own idx C n d ∈ gTW ∨ ∃ h : String, Cond.fieldLinkNest own idx C n d h ∈ gTW
-- a getfield: entry idx of own's pool is field k of class ci
def gFg (own : String) (idx ci k : Nat) : Prop := ∃ (C : String) (T : u_T) (N : Nat), vwCl[ci]? = some (C, T, N) ∧ k < N ∧ (∀ w ∈ u_ws C T N, w ∈ gTW) ∧ gLk own idx (T k).1 (T k).2.1 (T k).2.2.1
-- a putfield: besides, the field's type
def gFp (own : String) (idx ci k : Nat) (ty : FieldType) (fin : Bool) : Prop := ∃ (C : String) (T : u_T) (N : Nat) (ty0 : Nat → FieldType), vwCl[ci]? = some (C, T, N) ∧ k < N ∧ (∀ w ∈ u_ws C T N, w ∈ gTW) ∧ gLk own idx (T k).1 (T k).2.1 (T k).2.2.1 ∧
  (∀ k, k < N → parseFieldDescriptor (T k).2.2.1 = some (ty0 k)) ∧ (∀ a, a < N → ∀ b, b < N → a ≠ b → (T a).2.1 ≠ (T b).2.1) ∧ (T k).2.2.2 = fin ∧ parseFieldDescriptor (T k).2.2.1 = some ty ∧ (fin = true → (T k).1 = own ∧ Cond.fieldLink own idx (T k).1 (T k).2.1 (T k).2.2.1 ∈ gTW)
section GH
variable {X : gX} {M : gM} {F L C S : Nat} {pc pc' tgt : Nat} {lv : List (Nat × Value)} {st : List Value} {ws : va_W} {Post : gO → va_W → Prop}
theorem g_getf {idx ci k q a : Nat} {fs : List Value} {v : Value} (hf : gFg M.y.cls idx ci k) (hd : gD M pc (.getfield idx) 3 pc') (he : ws[q]? = some (a, .inr (ci, fs))) (hv : fs[k]? = some v)
    (kk : G X M F L C S pc' lv (v :: st) ws Post) : G X M F L C S pc lv (.ref a :: st) ws Post := by
  obtain ⟨hd, rfl⟩ := hd
  obtain ⟨C', T, N, hc, hk, hw, hlk⟩ := hf
  intro p e R s m args below meth c H locs kc ks ls I
  rcases hlk with hlk | ⟨h, hlk⟩
  · exact va_get (D := X.D) I.x I.b (I.ts args) hw I.own I.K I.P q he hc k hk (I.w args hlk) (fun _ h => h) hv hd (kk p e R s m args below meth c H locs kc ks ls I)
  · exact va_getN (D := X.D) I.x I.b (I.ts args) hw I.own I.K I.P q he hc k hk (I.w args hlk) (fun _ h => h) hv hd (kk p e R s m args below meth c H locs kc ks ls I)
theorem g_putf {idx ci k q a : Nat} {fs : List Value} {v : Value} {ty : FieldType} (hf : gFp M.y.cls idx ci k ty false) (hd : gD M pc (.putfield idx) 3 pc') (he : ws[q]? = some (a, .inr (ci, fs))) (hn : narrow ty v = v) (hfit : fits ty v = true) (hl : k < fs.length)
    (kk : G X M F L C S pc' lv st (ws.set q (a, .inr (ci, fs.set k v))) Post) : G X M F L C S pc lv (v :: .ref a :: st) ws Post := by
  obtain ⟨hd, rfl⟩ := hd
  obtain ⟨C', T, N, ty0, hc, hk, hw, hlk, hty, hnm, hfin, hpt, -⟩ := hf
  intro p e R s m args below meth c H locs kc ks ls I
  rcases hlk with hlk | ⟨h, hlk⟩
  · exact va_put (D := X.D) I.x I.b (I.ts args) hw ty0 hty hnm I.own I.K I.P I.dd I.sS q he hc k hk (I.w args hlk) (fun _ h => h) hfin hpt hn hfit hl hd (fun H1 locs1 hP hD hS => kk p e R s m args below meth c H1 locs1 kc ks ls (I.to hP hD hS))
  · exact va_putN (D := X.D) I.x I.b (I.ts args) hw ty0 hty hnm I.own I.K I.P I.dd I.sS q he hc k hk (I.w args hlk) (fun _ h => h) hfin hpt hn hfit hl hd (fun H1 locs1 hP hD hS => kk p e R s m args below meth c H1 locs1 kc ks ls (I.to hP hD hS))
theorem g_putF {idx ci k q a : Nat} {fs : List Value} {v : Value} {ty : FieldType} (hf : gFp M.y.cls idx ci k ty true) (hin : M.y.name = "<init>") (hd : gD M pc (.putfield idx) 3 pc') (he : ws[q]? = some (a, .inr (ci, fs))) (hn : narrow ty v = v) (hfit : fits ty v = true) (hl : k < fs.length)
    (kk : G X M F L C S pc' lv st (ws.set q (a, .inr (ci, fs.set k v))) Post) : G X M F L C S pc lv (v :: .ref a :: st) ws Post := by
  obtain ⟨hd, rfl⟩ := hd
  obtain ⟨C', T, N, ty0, hc, hk, hw, -, hty, hnm, hfin, hpt, hfi⟩ := hf
  obtain ⟨h1, hlk⟩ := hfi rfl
  intro p e R s m args below meth c H locs kc ks ls I
  exact va_putF (D := X.D) I.x I.b (I.ts args) hw ty0 hty hnm I.own I.K I.P I.dd I.sS q he hc k hk (I.w args hlk) (fun _ h => h) hfin (I.nm hin) h1 hpt hn hfit hl hd (fun H1 locs1 hP hD hS => kk p e R s m args below meth c H1 locs1 kc ks ls (I.to hP hD hS))
theorem g_iald {q a n j : Nat} {f : Nat → Int32} {i : Int32} (hd : gD M pc .iaload 1 pc') (he : ws[q]? = some (a, .inl (X.cI, n, .inl f))) (hi : i = nI j) (hj : j < n) (hn : n < 2 ^ 31)
    (kk : G X M F L C S pc' lv (.int (f j) :: st) ws Post) : G X M F L C S pc lv (.int i :: .ref a :: st) ws Post := by
  obtain ⟨hd, rfl⟩ := hd
  subst hi
  have hcl : (nI j).toNatClampNeg = j := nI_clamp (Nat.lt_trans hj hn)
  exact fun p e R s m args below meth c H locs kc ks ls I => va_iald (D := X.D) I.x I.b I.K I.P q 0 he rfl (vp_in_nI hj hn) hd (by rw [hcl]; exact kk p e R s m args below meth c H locs kc ks ls I)
theorem g_zald {q a n j : Nat} {f : Nat → Int32} {i : Int32} (hd : gD M pc .baload 1 pc') (he : ws[q]? = some (a, .inl (X.cZ, n, .inl f))) (hi : i = nI j) (hj : j < n) (hn : n < 2 ^ 31)
    (kk : G X M F L C S pc' lv (.int (f j) :: st) ws Post) : G X M F L C S pc lv (.int i :: .ref a :: st) ws Post := by
  obtain ⟨hd, rfl⟩ := hd
  subst hi
  have hcl : (nI j).toNatClampNeg = j := nI_clamp (Nat.lt_trans hj hn)
  exact fun p e R s m args below meth c H locs kc ks ls I => va_zald (D := X.D) I.x I.b I.K I.P q 1 he rfl (vp_in_nI hj hn) hd (by rw [hcl]; exact kk p e R s m args below meth c H locs kc ks ls I)
theorem g_lald {q a n j : Nat} {f : Nat → Int64} {i : Int32} (hd : gD M pc .laload 1 pc') (he : ws[q]? = some (a, .inl (X.cJ, n, .inr (.inl f)))) (hi : i = nI j) (hj : j < n) (hn : n < 2 ^ 31)
    (kk : G X M F L C S pc' lv (.long (f j) :: st) ws Post) : G X M F L C S pc lv (.int i :: .ref a :: st) ws Post := by
  obtain ⟨hd, rfl⟩ := hd
  subst hi
  have hcl : (nI j).toNatClampNeg = j := nI_clamp (Nat.lt_trans hj hn)
  exact fun p e R s m args below meth c H locs kc ks ls I => va_lald (D := X.D) I.x I.b I.K I.P q 2 he rfl (vp_in_nI hj hn) hd (by rw [hcl]; exact kk p e R s m args below meth c H locs kc ks ls I)
theorem g_aald {q a n j : Nat} {f : Nat → Option Nat} {i : Int32} (hd : gD M pc .aaload 1 pc') (he : ws[q]? = some (a, .inl (X.cQ, n, .inr (.inr (.inr (.inr f)))))) (hi : i = nI j) (hj : j < n) (hn : n < 2 ^ 31)
    (kk : G X M F L C S pc' lv (va_rf (f j) :: st) ws Post) : G X M F L C S pc lv (.int i :: .ref a :: st) ws Post := by
  obtain ⟨hd, rfl⟩ := hd
  subst hi
  have hcl : (nI j).toNatClampNeg = j := nI_clamp (Nat.lt_trans hj hn)
  exact fun p e R s m args below meth c H locs kc ks ls I => va_aldq (D := X.D) I.x I.b I.K I.P q 3 he rfl (vp_in_nI hj hn) hd (by rw [hcl]; exact kk p e R s m args below meth c H locs kc ks ls I)
theorem g_iast {q a n j : Nat} {f : Nat → Int32} {i : Int32} {x : Int32} (hd : gD M pc .iastore 1 pc') (he : ws[q]? = some (a, .inl (X.cI, n, .inl f))) (hi : i = nI j) (hj : j < n) (hn : n < 2 ^ 31)
    (kk : G X M F L C S pc' lv st (ws.set q (a, .inl (X.cI, n, .inl (upd f j x)))) Post) : G X M F L C S pc lv (.int x :: .int i :: .ref a :: st) ws Post := by
  obtain ⟨hd, rfl⟩ := hd
  subst hi
  have hcl : (nI j).toNatClampNeg = j := nI_clamp (Nat.lt_trans hj hn)
  exact fun p e R s m args below meth c H locs kc ks ls I => va_iast (D := X.D) I.x I.b I.K I.P I.dd I.sS q 0 he rfl (vp_in_nI hj hn) hd (fun H1 locs1 hP hD hS => by rw [hcl] at hP hD; exact kk p e R s m args below meth c H1 locs1 kc ks ls (I.to hP hD hS))
theorem g_zast {q a n j : Nat} {f : Nat → Int32} {i : Int32} {x : Int32} (hd : gD M pc .bastore 1 pc') (he : ws[q]? = some (a, .inl (X.cZ, n, .inl f))) (hi : i = nI j) (hj : j < n) (hn : n < 2 ^ 31) (hx : vp_nar .boolean x = x)
    (kk : G X M F L C S pc' lv st (ws.set q (a, .inl (X.cZ, n, .inl (upd f j x)))) Post) : G X M F L C S pc lv (.int x :: .int i :: .ref a :: st) ws Post := by
  obtain ⟨hd, rfl⟩ := hd
  subst hi
  have hcl : (nI j).toNatClampNeg = j := nI_clamp (Nat.lt_trans hj hn)
  exact fun p e R s m args below meth c H locs kc ks ls I => va_zast (D := X.D) I.x I.b I.K I.P I.dd I.sS q 1 he rfl (vp_in_nI hj hn) hd (fun H1 locs1 hP hD hS => by rw [hcl, hx] at hP hD; exact kk p e R s m args below meth c H1 locs1 kc ks ls (I.to hP hD hS))
theorem g_last {q a n j : Nat} {f : Nat → Int64} {i : Int32} {x : Int64} (hd : gD M pc .lastore 1 pc') (he : ws[q]? = some (a, .inl (X.cJ, n, .inr (.inl f)))) (hi : i = nI j) (hj : j < n) (hn : n < 2 ^ 31)
    (kk : G X M F L C S pc' lv st (ws.set q (a, .inl (X.cJ, n, .inr (.inl (vp_updL f j x))))) Post) : G X M F L C S pc lv (.long x :: .int i :: .ref a :: st) ws Post := by
  obtain ⟨hd, rfl⟩ := hd
  subst hi
  have hcl : (nI j).toNatClampNeg = j := nI_clamp (Nat.lt_trans hj hn)
  exact fun p e R s m args below meth c H locs kc ks ls I => va_last (D := X.D) I.x I.b I.K I.P I.dd I.sS q 2 he rfl (vp_in_nI hj hn) hd (fun H1 locs1 hP hD hS => by rw [hcl] at hP hD; exact kk p e R s m args below meth c H1 locs1 kc ks ls (I.to hP hD hS))
theorem g_aast {q a n j qk ci v : Nat} {f : Nat → Option Nat} {i : Int32} {vs : List Value} {r : vw_C} (hd : gD M pc .aastore 1 pc') (he : ws[q]? = some (a, .inl (X.cQ, n, .inr (.inr (.inr (.inr f)))))) (hv : ws[qk]? = some (v, .inr (ci, vs))) (hc : vwCl[ci]? = some r) (hr : r.1 = gShape) (hi : i = nI j) (hj : j < n) (hn : n < 2 ^ 31)
    (kk : G X M F L C S pc' lv st (ws.set q (a, .inl (X.cQ, n, .inr (.inr (.inr (.inr (va_up f j (some v)))))))) Post) : G X M F L C S pc lv (.ref v :: .int i :: .ref a :: st) ws Post := by
  obtain ⟨hd, rfl⟩ := hd
  subst hi
  have hcl : (nI j).toNatClampNeg = j := nI_clamp (Nat.lt_trans hj hn)
  exact fun p e R s m args below meth c H locs kc ks ls I => va_astq (D := X.D) I.x I.b I.K I.P I.dd I.sS q 3 qk ci he (by rw [hr]; rfl) hv hc (vp_in_nI hj hn) hd (fun H1 locs1 hP hD hS => by rw [hcl] at hP hD; exact kk p e R s m args below meth c H1 locs1 kc ks ls (I.to hP hD hS))
theorem g_alen {q a : Nat} {x : vp_A} (hd : gD M pc .arraylength 1 pc') (he : ws[q]? = some (a, .inl (X.cI, x)))
    (kk : G X M F L C S pc' lv (.int (nI x.1) :: st) ws Post) : G X M F L C S pc lv (.ref a :: st) ws Post := by
  obtain ⟨hd, rfl⟩ := hd
  exact fun p e R s m args below meth c H locs kc ks ls I => va_alen (D := X.D) I.x I.b I.K I.P q 0 he rfl rfl hd (kk p e R s m args below meth c H locs kc ks ls I)
end GH
