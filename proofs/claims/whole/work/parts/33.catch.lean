/-! A throw out of a callee, caught by a row of the method's own table -/
-- the exception k, thrown at pc, comes to the handler at hpc
def gHp (M : gM) (pc k hpc : Nat) : Prop := ∃ (pre rest : List (Nat × Nat × Nat × Nat)) (h : Nat × Nat × Nat × Nat), M.hh = some (pre ++ h :: rest) ∧ (∀ y ∈ pre, y.2.2.2 ≠ 0 ∧ ∃ j, j < 4 ∧ j ≠ k ∧ Cond.classLink M.y.cls y.2.2.2 (gEx j) ∈ gTW) ∧ (h.1 ≤ pc ∧ pc < h.2.1) ∧ h.2.2.1 = hpc ∧ h.2.2.2 ≠ 0 ∧ Cond.classLink M.y.cls h.2.2.2 (gEx k) ∈ gTW ∧ k < 4
theorem gHp1 {M : gM} {pc k : Nat} {h : Nat × Nat × Nat × Nat} {rest : List (Nat × Nat × Nat × Nat)} (hh : M.hh = some (h :: rest)) (h1 : h.1 ≤ pc) (h2 : pc < h.2.1) (h3 : h.2.2.2 ≠ 0) (hl : Cond.classLink M.y.cls h.2.2.2 (gEx k) ∈ gTW) (hk : k < 4) : gHp M pc k h.2.2.1 :=
  ⟨[], rest, h, hh, (fun y hy => by cases hy), ⟨h1, h2⟩, rfl, h3, hl, hk⟩
theorem gHp2 {M : gM} {pc k j : Nat} {h h' : Nat × Nat × Nat × Nat} {rest : List (Nat × Nat × Nat × Nat)} (hh : M.hh = some (h' :: h :: rest)) (h1 : h.1 ≤ pc) (h2 : pc < h.2.1) (h3 : h.2.2.2 ≠ 0) (hl : Cond.classLink M.y.cls h.2.2.2 (gEx k) ∈ gTW) (hk : k < 4)
    (h3' : h'.2.2.2 ≠ 0) (hl' : Cond.classLink M.y.cls h'.2.2.2 (gEx j) ∈ gTW) (hj : j < 4) (hjk : j ≠ k) : gHp M pc k h.2.2.1 :=
  ⟨[h'], rest, h, hh, (fun y hy => by cases List.mem_singleton.mp hy; exact ⟨h3', j, hj, hjk, hl'⟩), ⟨h1, h2⟩, rfl, h3, hl, hk⟩
theorem exn_cast : ∀ k, k < 4 → Cond.castable (gEx k) (gEx k) ∈ gTW := by decide +kernel
section GCC
variable {X : gX} {M M' : gM} {F L C S F' L' C' S' : Nat} {pc pc' : Nat} {lv : List (Nat × Value)} {st : List Value} {ws : va_W} {Post Post' : gO → va_W → Prop}
theorem g_catch {hpc k : Nat} (hp : gHp M pc k hpc) {p : Program} {e : Env} {R : Room} {s : State} {m : MethodId} {args : Array Value} {below : List Frame} {meth : Method} {c : Code} {H : Heap} {locs : List Loc} {kc ks : Nat} {ls : Array Slot}
    (I : gI X M F L C S lv ws p R s m meth c H locs kc ks ls) {T : State} (hT : T.heap = H) (Xs : Stand p X.l e R s m args below meth c T locs kc ks)
    {x : Addr} {cell : Cell} (h1 : T.heap[x]? = some cell) (h2 : cell.vm.isStatics = false) (h3 : T.vm.findClass (gEx k) = some cell.cls) (kk : G X M F L C S hpc lv [.ref x] ws Post) :
    ∃ t, Steps p.tables e below ((T.setTop (F0 m pc ls st)).pushFrame (.throwing x)) t ∧ gE X below s R Post t := by
  obtain ⟨pre, rest, h, e1, e2, e3, e4, e5, e6, e7⟩ := hp
  have htab := I.tab e1
  obtain ⟨l1, l2, s1, s2, s3⟩ := List.map_eq_append_iff.mp htab
  obtain ⟨r, l3, s4, s5, s6⟩ := List.map_eq_cons_iff.mp s3
  have hpl : e.platform.magicAccessors = ({} : Platform).magicAccessors := by rw [Xs.admits.platform]
  have hfc : s.vm.findClass (gEx k) = some cell.cls := by rw [← Xs.warmed.alike.findClass]; exact h3
  have r1 : r.startPc = h.1 ∧ r.endPc = h.2.1 ∧ r.handlerPc = h.2.2.1 ∧ r.catchType = h.2.2.2 := by rw [← s5]; exact ⟨rfl, rfl, rfl, rfl⟩
  obtain ⟨c3, c4, q3, q4, hasg⟩ := Cond.castable_spec (I.w args (exn_cast k e7))
  cases q3.symm.trans hfc
  cases q4.symm.trans hfc
  obtain ⟨hcat, hk0⟩ := Xs.catches_of_link I.own (x := r) (by rw [r1.2.2.2]; exact e5) (by rw [r1.2.2.2]; exact I.w args e6) hfc hasg
  obtain ⟨vm', XV, st'⟩ := Xs.caughtThrough x (g := F0 m pc ls st) rfl h1 h2 hk0 l1 r l3 (by rw [s1, s4]) (fun y hy => by
    have hy2 := e2 (y.startPc, y.endPc, y.handlerPc, y.catchType) (by rw [← s2]; exact List.mem_map.mpr ⟨y, hy, rfl⟩)
    obtain ⟨z0, j, z1, z2, z3⟩ := hy2
    obtain ⟨c', hc', hcl⟩ := Cond.classLink_spec I.own (I.w args z3) e.platform hpl
    obtain ⟨u, t, n1, n2, n3⟩ := I.T.2.2.2.2.2.2.2.2.2.2.2.2.2 k j e7 z1 (fun z => z2 z.symm)
    cases n1.symm.trans hfc
    cases n2.symm.trans hc'
    exact Or.inr ⟨z0, c', hcl, n3⟩) (by simp [covers, r1.1, r1.2.1, e3.1, e3.2]) hcat
  obtain ⟨t, w1, w2⟩ := kk p e R s m args below meth c H locs kc ks ls I (T.setVm vm') hT XV
  refine ⟨t, ?_, w2⟩
  rw [Xs.pushThrowing_eq]
  exact st' t (by rw [r1.2.2.1, e4]; exact w1)
theorem g_afterC {p : Program} {e : Env} {R : Room} {s : State} {m : MethodId} {args : Array Value} {below : List Frame} {meth : Method} {c : Code} {T T' : State} {locs : List Loc} {kc ks : Nat} {ls : Array Slot} {r : gO} {ws' : va_W} {mk : MethodId} {As : List Value}
    (kk : ∀ v w, Post' (.inl v) w → G X M F L C S (pc + 3) lv (v.toList ++ st) w Post) (kt : ∀ k w, Post' (.inr k) w → ∃ hpc, gHp M pc k hpc ∧ ∀ x, G X M F L C S hpc lv [.ref x] w Post)
    (hp : Post' r ws') (X' : Stand p X.l e R s m args below meth c T' locs kc ks) (I' : gI X M F L C S lv ws' p R s m meth c T'.heap locs kc ks ls) (hb : gBack p e below T T' (F0 m pc ls st) 3 mk As r) :
    ∃ t, (∀ acts, Steps p.tables e below (doInvoke e (T.setTop (F0 m pc ls st)) acts mk As.toArray).1 t) ∧ gE X below s R Post t := by
  cases r with
  | inl v =>
    obtain ⟨t, h1, h2⟩ := kk v ws' hp p e R s m args below meth c T'.heap locs kc ks ls I' T' rfl X'
    exact ⟨t, fun acts => (hb acts).trans h1, h2⟩
  | inr k =>
    obtain ⟨x, cell, h1, h2, h3, h4⟩ := hb
    obtain ⟨hpc, hh, kx⟩ := kt k ws' hp
    obtain ⟨t, h5, h6⟩ := g_catch hh I' rfl X' h2 h3 h4 (kx x)
    exact ⟨t, fun acts => (h1 acts).trans h5, h6⟩
theorem g_callVC {idx n q ci b : Nat} {fs As : List Value} {K : u_T} {N : Nat} (hc : gCV M.y.cls idx M' n) (hd : gD M pc (.invokevirtual idx) 3 pc') (hci : vwCl[ci]? = some (M'.y.cls, K, N)) (he : ws[q]? = some (b, .inr (ci, fs))) (hn : As.length = n)
    (con : G X M' F' L' C' S' 0 (lv_args 0 (.ref b :: As)) [] ws Post') (hent : (lg_sl (.ref b :: As)).length ≤ M'.maxL) (hst : (st.map fun v => v.category).sum ≤ 8)
    (hF : F' + 1 ≤ F) (hL : 8 + (M'.maxL + 11) + L' ≤ L) (hC : C' ≤ C) (hS : S' ≤ S)
    (kk : ∀ v w, Post' (.inl v) w → G X M F L (C - C') (S - S') pc' lv (v.toList ++ st) w Post) (kt : ∀ k w, Post' (.inr k) w → ∃ hpc, gHp M pc k hpc ∧ ∀ x, G X M F L (C - C') (S - S') hpc lv [.ref x] w Post) :
    G X M F L C S pc lv (As.reverse ++ .ref b :: st) ws Post := by
  obtain ⟨hd, rfl⟩ := hd
  obtain ⟨hcode, hlk, hin, hsel, h1, h2, h3, hpl⟩ := hc
  intro p e R s m args below meth c H locs kc ks ls I T hT Xs
  obtain ⟨mk, methM, hnamed, hmethM, hstM, habM⟩ := Cond.instanceMethod_spec (I.w args hin)
  obtain ⟨mk', methk, ck, hn', a1, a2, a3, a4, a5, a6, a7, a8⟩ := hcode.spec I.T
  cases hnamed.symm.trans hn'
  cases hmethM.symm.trans a1
  obtain ⟨c2, r2, m2, q1, q2, q3, q4, kP, hkP, hkPi⟩ := Cond.selects_spec (I.w args hsel)
  obtain ⟨cellB, hcB, hoB, hclB⟩ := va_recv I.K I.P hci he
  cases hclB.symm.trans q1
  cases (State.methodFound?_of_named hnamed ⟨h1, h2⟩).symm.trans q2
  cases hnamed.symm.trans q3
  have hselP : selectMethod e.platform s.vm cellB.cls mk = .method mk := by rw [Launch.admits_selectMethod Xs.admits]; exact q4
  have hlen : As.length = methM.sig.parameters.length := by
    rw [a8] at h3
    exact hn.trans (Option.some.inj h3).symm
  have hdg : decode c.code (F0 m pc ls (As.reverse ++ .ref b :: st)).pc = .ok (.invokevirtual idx, 3) := by rw [I.b]; exact hd
  have go : ∃ vm₁, Stand p X.l e R s m args below meth c (T.setVm vm₁) locs kc ks ∧
      ∀ target, (∀ acts, Steps p.tables e below (doInvoke e ((T.setVm vm₁).setTop (F0 m pc ls st)) acts mk (.ref b :: As).toArray).1 target) → Steps p.tables e below (T.setTop (F0 m pc ls (As.reverse ++ .ref b :: st))) target := by
    rcases hlk with hlk | ⟨h, hlk⟩
    · exact Xs.invokevirtual I.x I.own (I.w args hlk) hnamed hmethM hstM hkP hkPi ⟨h1, h2⟩ (a := b) (cell := cellB) (by rw [hT]; exact hcB) (fun z h => by rw [h] at hoB; cases hoB) hselP hmethM habM hkP hkPi (g := F0 m pc ls (As.reverse ++ .ref b :: st)) rfl (argsL := As) (rest := st) hlen rfl hdg
    · exact Xs.invokevirtualNest I.x I.own (I.w args hlk) hnamed hmethM hstM hkP hkPi ⟨h1, h2⟩ (a := b) (cell := cellB) (by rw [hT]; exact hcB) (fun z h => by rw [h] at hoB; cases hoB) hselP hmethM habM hkP hkPi (g := F0 m pc ls (As.reverse ++ .ref b :: st)) rfl (argsL := As) (rest := st) hlen rfl hdg
  obtain ⟨vm₁, X₁, hstep⟩ := go
  have h8 : 2 * (F0 m pc ls st).monitorRoom + ((F0 m pc ls st).stack.map fun v => v.category).sum ≤ 8 := lv_room hst
  obtain ⟨r, ws', T', Ls, hp, X', I', hb⟩ := g_enter con hent hcode hpl I (T := T.setVm vm₁) hT X₁ (g := F0 m pc ls st) rfl (I.hl.1.trans I.ml.symm) (by rw [I.b]; exact hd) hnamed hF (by omega) hC hS
  obtain ⟨t, h5, h6⟩ := g_afterC kk kt hp X' I' hb
  exact ⟨t, hstep t h5, h6⟩
end GCC
section GWC
variable {X : gX} {a : Nat → Nat} {M M' : gM} {F L C S F' L' C' S' : Nat} {pc pc' tgt : Nat} {lv : List (Nat × Value)} {st stk : List Value} {c : Nat → va_E} {Post : gO → (Nat → va_E) → Prop}
theorem w_vVC {idx n q ci : Nat} {fs : List Value} {K : u_T} {N : Nat} {P : (Nat → va_E) → Prop} {PT : Nat → (Nat → va_E) → Prop} (As : List Value) (hc : gCV M.y.cls idx M' n) (hd : gD M pc (.invokevirtual idx) 3 pc') (hci : vwCl[ci]? = some (M'.y.cls, K, N)) (he : c q = .inr (ci, fs)) (hq : q < 95) (con : GW X a M' F' L' C' S' 0 (lv_args 0 (.ref (a q) :: As)) [] c (pVT P PT)) (kk : ∀ w, P w → GW X a M F L (C - C') (S - S') pc' lv st w Post) (kt : ∀ k w, PT k w → ∃ hpc, gHp M pc k hpc ∧ ∀ x, GW X a M F L (C - C') (S - S') hpc lv [.ref x] w Post)
    (hs : stk = As.reverse ++ .ref (a q) :: st) (hn : As.length = n) (hent : (lg_sl (.ref (a q) :: As)).length ≤ M'.maxL) (hst : (st.map fun v => v.category).sum ≤ 8) (hF : F' + 1 ≤ F) (hL : 8 + (M'.maxL + 11) + L' ≤ L) (hC : C' ≤ C) (hS : S' ≤ S) : GW X a M F L C S pc lv stk c Post := by
  subst hs
  refine g_callVC hc hd hci (wl_get hq he) hn con hent hst hF hL hC hS (fun v w h => ?_) (fun k w h => ?_)
  · obtain ⟨c', rfl, h⟩ := h
    rcases h with ⟨h1, h2⟩ | ⟨k, h1, h2⟩
    · cases h1
      exact kk _ h2
    · cases h1
  · obtain ⟨c', rfl, h⟩ := h
    rcases h with ⟨h1, h2⟩ | ⟨k', h1, h2⟩
    · cases h1
    · cases h1
      exact kt k _ h2
theorem w_vIC {idx n q ci : Nat} {fs : List Value} {K : u_T} {N : Nat} {P : Int32 → (Nat → va_E) → Prop} {PT : Nat → (Nat → va_E) → Prop} (As : List Value) (hc : gCV M.y.cls idx M' n) (hd : gD M pc (.invokevirtual idx) 3 pc') (hci : vwCl[ci]? = some (M'.y.cls, K, N)) (he : c q = .inr (ci, fs)) (hq : q < 95) (con : GW X a M' F' L' C' S' 0 (lv_args 0 (.ref (a q) :: As)) [] c (pIT P PT)) (kk : ∀ x w, P x w → GW X a M F L (C - C') (S - S') pc' lv (.int x :: st) w Post) (kt : ∀ k w, PT k w → ∃ hpc, gHp M pc k hpc ∧ ∀ x, GW X a M F L (C - C') (S - S') hpc lv [.ref x] w Post)
    (hs : stk = As.reverse ++ .ref (a q) :: st) (hn : As.length = n) (hent : (lg_sl (.ref (a q) :: As)).length ≤ M'.maxL) (hst : (st.map fun v => v.category).sum ≤ 8) (hF : F' + 1 ≤ F) (hL : 8 + (M'.maxL + 11) + L' ≤ L) (hC : C' ≤ C) (hS : S' ≤ S) : GW X a M F L C S pc lv stk c Post := by
  subst hs
  refine g_callVC hc hd hci (wl_get hq he) hn con hent hst hF hL hC hS (fun v w h => ?_) (fun k w h => ?_)
  · obtain ⟨c', rfl, h⟩ := h
    rcases h with ⟨x, h1, h2⟩ | ⟨k, h1, h2⟩
    · cases h1
      exact kk x _ h2
    · cases h1
  · obtain ⟨c', rfl, h⟩ := h
    rcases h with ⟨x, h1, h2⟩ | ⟨k', h1, h2⟩
    · cases h1
    · cases h1
      exact kt k _ h2
theorem w_vJC {idx n q ci : Nat} {fs : List Value} {K : u_T} {N : Nat} {P : Int64 → (Nat → va_E) → Prop} {PT : Nat → (Nat → va_E) → Prop} (As : List Value) (hc : gCV M.y.cls idx M' n) (hd : gD M pc (.invokevirtual idx) 3 pc') (hci : vwCl[ci]? = some (M'.y.cls, K, N)) (he : c q = .inr (ci, fs)) (hq : q < 95) (con : GW X a M' F' L' C' S' 0 (lv_args 0 (.ref (a q) :: As)) [] c (pJT P PT)) (kk : ∀ x w, P x w → GW X a M F L (C - C') (S - S') pc' lv (.long x :: st) w Post) (kt : ∀ k w, PT k w → ∃ hpc, gHp M pc k hpc ∧ ∀ x, GW X a M F L (C - C') (S - S') hpc lv [.ref x] w Post)
    (hs : stk = As.reverse ++ .ref (a q) :: st) (hn : As.length = n) (hent : (lg_sl (.ref (a q) :: As)).length ≤ M'.maxL) (hst : (st.map fun v => v.category).sum ≤ 8) (hF : F' + 1 ≤ F) (hL : 8 + (M'.maxL + 11) + L' ≤ L) (hC : C' ≤ C) (hS : S' ≤ S) : GW X a M F L C S pc lv stk c Post := by
  subst hs
  refine g_callVC hc hd hci (wl_get hq he) hn con hent hst hF hL hC hS (fun v w h => ?_) (fun k w h => ?_)
  · obtain ⟨c', rfl, h⟩ := h
    rcases h with ⟨x, h1, h2⟩ | ⟨k, h1, h2⟩
    · cases h1
      exact kk x _ h2
    · cases h1
  · obtain ⟨c', rfl, h⟩ := h
    rcases h with ⟨x, h1, h2⟩ | ⟨k', h1, h2⟩
    · cases h1
    · cases h1
      exact kt k _ h2
end GWC
