/-! Making objects and arrays; Object's constructor; the world in another order -/
section GN
variable {X : gX} {M : gM} {F L C S : Nat} {pc pc' : Nat} {lv : List (Nat × Value)} {st : List Value} {ws : va_W} {Post : gO → va_W → Prop}
theorem g_new {idx ci N : Nat} {Cn : String} {T : u_T} {fs : List Value} (hc : vwCl[ci]? = some (Cn, T, N)) (hl : Cond.classLink M.y.cls idx Cn ∈ gTW) (hins : Cond.instantiable Cn N ∈ gTW) (hini : Cond.initialized Cn ∈ gTW) (hin : ∀ w ∈ u_ws Cn T N, w ∈ gTW) (ty : Nat → FieldType) (hty : ∀ k, k < N → parseFieldDescriptor (T k).2.2.1 = some (ty k))
    (hfs : ∀ j, j < N → defaultValue (ty j) = vp_V fs j) (hd : gD M pc (.new idx) 3 pc') (hC : 1 ≤ C) (hS : N ≤ S) (kk : ∀ q, G X M F L (C - 1) (S - N) pc' lv (.ref q :: st) (ws ++ [(q, .inr (ci, fs))]) Post) : G X M F L C S pc lv st ws Post := by
  obtain ⟨hd, rfl⟩ := hd
  intro p e R s m args below meth c H locs kc ks ls I
  have r1 := I.2.1.2.2.1
  have r2 := I.2.1.2.2.2
  exact va_new (D := X.D) I.x I.b (I.ts args) hin ty hty I.own (I.w args hl) (I.w args hins) (I.w args hini) I.K I.P I.dd I.sS I.hA hc hfs (by omega) (by omega) hd (fun q H1 hP hD hS' => kk q p e R s m args below meth c H1 locs (kc + 1) (ks + N) ls ((I.to hP hD hS').room (by omega) (by omega)))
theorem g_newI {j : Nat} {i : Int32} (hd : gD M pc (.newarray .int) 2 pc') (hi : i = nI j) (hj : j ≤ 1000) (hC : 1 ≤ C) (hS : j ≤ S) (kk : ∀ q, G X M F L (C - 1) (S - j) pc' lv (.ref q :: st) (ws ++ [(q, .inl (X.cI, j, .inl (fun _ => 0)))]) Post) : G X M F L C S pc lv (.int i :: st) ws Post := by
  obtain ⟨hd, rfl⟩ := hd
  subst hi
  intro p e R s m args below meth c H locs kc ks ls I
  have r1 := I.2.1.2.2.1
  have r2 := I.2.1.2.2.2
  have ha : (Cond.arrayClass .int).before args s = true := I.T.2.2.2.2.2.2.2.2.1 .int (by simp)
  refine va_newa (R := R) (cells := kc) (slots := ks) (D := X.D) (A := gA X s) (H0 := s.heap) (tys := X.tys) (ws := ws) (args := args) (n := nI j) (N' := j) (atype := .int) (ty := .int) (a0 := (j, .inl (fun _ => 0))) I.x I.b ha rfl I.K I.P I.dd I.sS I.hA (fun cA => rfl) (nI_n0 (by omega)) (nI_clamp (by omega)) (by show j * 4 ≤ _; omega) (by omega) (by omega) hd (fun q cA H1 hK hP hD hS' => ?_)
  have z1 : s.vm.findClass ("[" ++ FieldType.int.toString) = some cA := (hK.2 4 (cA, .int) rfl).2
  have z2 : s.vm.findClass ("[" ++ FieldType.int.toString) = some X.cI := (I.K.2 0 (X.cI, .int) rfl).2
  have e1 : cA = X.cI := Option.some.inj (z1.symm.trans z2)
  subst e1
  exact kk q p e R s m args below meth c H1 locs (kc + 1) (ks + j) ls ((I.to hP hD hS').room (by omega) (by omega))
theorem g_newZ {j : Nat} {i : Int32} (hd : gD M pc (.newarray .boolean) 2 pc') (hi : i = nI j) (hj : j ≤ 1000) (hC : 1 ≤ C) (hS : j ≤ S) (kk : ∀ q, G X M F L (C - 1) (S - j) pc' lv (.ref q :: st) (ws ++ [(q, .inl (X.cZ, j, .inl (fun _ => 0)))]) Post) : G X M F L C S pc lv (.int i :: st) ws Post := by
  obtain ⟨hd, rfl⟩ := hd
  subst hi
  intro p e R s m args below meth c H locs kc ks ls I
  have r1 := I.2.1.2.2.1
  have r2 := I.2.1.2.2.2
  have ha : (Cond.arrayClass .boolean).before args s = true := I.T.2.2.2.2.2.2.2.2.1 .boolean (by simp)
  refine va_newa (R := R) (cells := kc) (slots := ks) (D := X.D) (A := gA X s) (H0 := s.heap) (tys := X.tys) (ws := ws) (args := args) (n := nI j) (N' := j) (atype := .boolean) (ty := .boolean) (a0 := (j, .inl (fun _ => 0))) I.x I.b ha rfl I.K I.P I.dd I.sS I.hA (fun cA => rfl) (nI_n0 (by omega)) (nI_clamp (by omega)) (by show j * 1 ≤ _; omega) (by omega) (by omega) hd (fun q cA H1 hK hP hD hS' => ?_)
  have z1 : s.vm.findClass ("[" ++ FieldType.boolean.toString) = some cA := (hK.2 4 (cA, .boolean) rfl).2
  have z2 : s.vm.findClass ("[" ++ FieldType.boolean.toString) = some X.cZ := (I.K.2 1 (X.cZ, .boolean) rfl).2
  have e1 : cA = X.cZ := Option.some.inj (z1.symm.trans z2)
  subst e1
  exact kk q p e R s m args below meth c H1 locs (kc + 1) (ks + j) ls ((I.to hP hD hS').room (by omega) (by omega))
theorem g_newJ {j : Nat} {i : Int32} (hd : gD M pc (.newarray .long) 2 pc') (hi : i = nI j) (hj : j ≤ 1000) (hC : 1 ≤ C) (hS : j ≤ S) (kk : ∀ q, G X M F L (C - 1) (S - j) pc' lv (.ref q :: st) (ws ++ [(q, .inl (X.cJ, j, .inr (.inl (fun _ => 0))))]) Post) : G X M F L C S pc lv (.int i :: st) ws Post := by
  obtain ⟨hd, rfl⟩ := hd
  subst hi
  intro p e R s m args below meth c H locs kc ks ls I
  have r1 := I.2.1.2.2.1
  have r2 := I.2.1.2.2.2
  have ha : (Cond.arrayClass .long).before args s = true := I.T.2.2.2.2.2.2.2.2.1 .long (by simp)
  refine va_newa (R := R) (cells := kc) (slots := ks) (D := X.D) (A := gA X s) (H0 := s.heap) (tys := X.tys) (ws := ws) (args := args) (n := nI j) (N' := j) (atype := .long) (ty := .long) (a0 := (j, .inr (.inl (fun _ => 0)))) I.x I.b ha rfl I.K I.P I.dd I.sS I.hA (fun cA => rfl) (nI_n0 (by omega)) (nI_clamp (by omega)) (by show j * 8 ≤ _; omega) (by omega) (by omega) hd (fun q cA H1 hK hP hD hS' => ?_)
  have z1 : s.vm.findClass ("[" ++ FieldType.long.toString) = some cA := (hK.2 4 (cA, .long) rfl).2
  have z2 : s.vm.findClass ("[" ++ FieldType.long.toString) = some X.cJ := (I.K.2 2 (X.cJ, .long) rfl).2
  have e1 : cA = X.cJ := Option.some.inj (z1.symm.trans z2)
  subst e1
  exact kk q p e R s m args below meth c H1 locs (kc + 1) (ks + j) ls ((I.to hP hD hS').room (by omega) (by omega))
theorem g_newQ {idx j : Nat} {i : Int32} (hl : Cond.classLink M.y.cls idx gShape ∈ gTW) (hd : gD M pc (.anewarray idx) 3 pc') (hi : i = nI j) (hj : j ≤ 1000) (hC : 1 ≤ C) (hS : j ≤ S) (kk : ∀ q, G X M F L (C - 1) (S - j) pc' lv (.ref q :: st) (ws ++ [(q, .inl (X.cQ, j, .inr (.inr (.inr (.inr (fun _ => none))))))]) Post) : G X M F L C S pc lv (.int i :: st) ws Post := by
  obtain ⟨hd, rfl⟩ := hd
  subst hi
  intro p e R s m args below meth c H locs kc ks ls I
  have r1 := I.2.1.2.2.1
  have r2 := I.2.1.2.2.2
  refine va_newq (R := R) (cells := kc) (slots := ks) (D := X.D) (A := gA X s) (H0 := s.heap) (tys := X.tys) (ws := ws) I.x I.b I.own (I.w args hl) I.T.2.2.2.2.2.2.2.2.2.1 I.K I.P I.dd I.sS I.hA (nI_n0 (by omega)) (nI_clamp (by omega)) (by omega) (by omega) (by omega) hd (fun q cA H1 hK hP hD hS' => ?_)
  have e1 : cA = X.cQ := by
    have h1 := (hK.2 4 (cA, .object gShape) rfl).2
    have h2 := (I.K.2 3 (X.cQ, .object gShape) rfl).2
    obtain ⟨kA, cp, a1, a2, a3, a4⟩ := h1
    obtain ⟨kB, cq, b1, b2, b3, b4⟩ := h2
    exact Option.some.inj (a4.symm.trans b4)
  subst e1
  exact kk q p e R s m args below meth c H1 locs (kc + 1) (ks + j) ls ((I.to hP hD hS').room (by omega) (by omega))
theorem g_obj {idx b : Nat} (hl : Cond.methodLink M.y.cls idx Lib.objectInit ∈ gTW) (hi : Cond.instanceMethod Lib.objectInit ∈ gTW) (hc : Cond.code Lib.objectInit ⟨#[0xb1]⟩ 1 none ∈ gTW) (hd : gD M pc (.invokespecial idx) 3 pc') (hF : 1 ≤ F) (hL : 20 ≤ L) (hst : (st.map fun v => v.category).sum ≤ 8) (kk : G X M F L C S pc' lv st ws Post) : G X M F L C S pc lv (.ref b :: st) ws Post := by
  obtain ⟨hd, rfl⟩ := hd
  intro p e R s m args below meth c H locs kc ks ls I
  have r1 := I.2.1.1
  have r2 := I.2.1.2.1
  have h8 : 2 * (F0 m pc ls st).monitorRoom + ((F0 m pc ls st).stack.map fun v => v.category).sum ≤ 8 := lv_room hst
  have h9 : ((F0 m pc ls st).stack.map fun v => v.category).sum = (st.map fun v => v.category).sum := rfl
  exact W.objInit I.x I.b I.own (I.w args hl) (I.w args hi) (I.w args hc) (g := F0 m pc ls (.ref b :: st)) rfl (I.hl.1.trans I.ml.symm) rfl hd (by omega) (by show 2 * (F0 m pc ls st).monitorRoom + (st.map fun v => v.category).sum + 12 ≤ R.locals; omega) (kk p e R s m args below meth c H locs kc ks ls I)
-- the world's cells in another order, or fewer of them
theorem g_sub (is : List Nat) (hn : va_nd is = true) {ws' : va_W} (h1 : is.filterMap (fun i => ws[i]?) = ws') (h2 : is.map (fun i => ws[i]?) = ws'.map some) (kk : G X M F L C S pc lv st ws' Post) : G X M F L C S pc lv st ws Post := by
  intro p e R s m args below meth c H locs kc ks ls I
  exact kk p e R s m args below meth c H locs kc ks ls (I.to (I.P.sub is h1) (I.dd.sub is hn h2) I.sS)
end GN
