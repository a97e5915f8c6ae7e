/-! Calls: a method of ours is entered, walked by its own G, and left; or it throws -/
def gCode (M : gM) : Prop := (M.hh = some [] ∧ Cond.code M.y M.code M.maxL M.ret ∈ gTW) ∨ ∃ hh, M.hh = some hh ∧ Cond.codeWith M.y M.code M.maxL M.ret hh ∈ gTW
theorem gCode.spec {M : gM} (h : gCode M) {X : gX} {U : State} (hT : gT X U) : ∃ (mk : MethodId) (meth : Method) (c : Code), U.methodNamed? M.y = some mk ∧ U.vm.method? mk = some meth ∧ meth.code = some c ∧ c.code = M.code ∧ c.maxLocals = M.maxL ∧ (∀ hh, M.hh = some hh → c.exceptionTable.toList.map (fun h => (h.startPc, h.endPc, h.handlerPc, h.catchType)) = hh) ∧ meth.sig.returnType = M.ret ∧ meth.locks = false ∧ parseMethodDescriptor M.y.desc = some meth.sig := by
  rcases h with ⟨h0, h⟩ | ⟨hh, h0, h⟩
  · have hc := hT.1 _ h
    obtain ⟨mk, hn⟩ := Cond.code_named hc
    obtain ⟨meth, c, a1, a2, a3, a4, a5, a6, a7, a8⟩ := Cond.code_spec hn hc
    refine ⟨mk, meth, c, hn, a1, a2, a3, a4, ?_, a5, a6, a8⟩
    have he : c.exceptionTable = #[] := by simpa using a7
    intro hh h2
    rw [h0] at h2
    cases h2
    rw [he]
    rfl
  · obtain ⟨mk, meth, c, hn, a1, a2, a3, a4, a5, a6, a7, a8⟩ := Cond.codeWith_spec (hT.1 _ h)
    refine ⟨mk, meth, c, hn, a1, a2, a3, a4, fun hh' h2 => ?_, a6, a7, a8⟩
    rw [h0] at h2
    cases h2
    exact a5
theorem gSteps.weaken {tb : Tables} {e : Env} {mid below : List Frame} {a b : State} (h : Steps tb e (mid ++ below) a b) : Steps tb e below a b := by
  obtain ⟨n, hn, w⟩ := h
  exact ⟨n, hn, fun k hk => (w k hk).weaken⟩
theorem gHeapTop (T : State) (g : JFrame) : (T.setTop g).heap = T.heap := by simp [State.setTop, State.modifyTopJava, State.setFrames]
theorem gHeapPush (T : State) (g : JFrame) (f : Frame) : ((T.setTop g).pushFrame f).heap = T.heap := by simp [State.pushFrame, State.setFrames, State.setTop, State.modifyTopJava]
theorem gVmPush (T : State) (g : JFrame) (f : Frame) : ((T.setTop g).pushFrame f).vm = T.vm := by simp [State.pushFrame, State.setFrames, State.setTop, State.modifyTopJava]
theorem gVmTop (T : State) (g : JFrame) : (T.setTop g).vm = T.vm := by simp [State.setFrames, State.setTop, State.modifyTopJava]
-- how a call comes back
def gBack (p : Program) (e : Env) (below : List Frame) (T T' : State) (g : JFrame) (len : Nat) (mk : MethodId) (As : List Value) (r : gO) : Prop := match r with
  | .inl v => ∀ acts, Steps p.tables e below (doInvoke e (T.setTop g) acts mk As.toArray).1 (T'.setTop { g with pc := g.pc + len, stack := v.toList ++ g.stack })
  | .inr k => ∃ (x : Addr) (cell : Cell), (∀ acts, Steps p.tables e below (doInvoke e (T.setTop g) acts mk As.toArray).1 ((T'.setTop g).pushFrame (.throwing x))) ∧ T'.heap[x]? = some cell ∧ cell.vm.isStatics = false ∧ T'.vm.findClass (gEx k) = some cell.cls
set_option maxHeartbeats 1000000 in
theorem g_enter {X : gX} {M M' : gM} {F L C S F' L' C' S' : Nat} {lv : List (Nat × Value)} {ws : va_W} {As : List Value} {Post' : gO → va_W → Prop}
    (con : G X M' F' L' C' S' 0 (lv_args 0 As) [] ws Post') (hent : (lg_sl As).length ≤ M'.maxL) (hcode : gCode M') (hplain : plainName M'.y.cls = true)
    {p : Program} {e : Env} {R : Room} {s : State} {m : MethodId} {args : Array Value} {below : List Frame} {meth : Method} {c : Code} {H : Heap} {locs : List Loc} {kc ks : Nat} {ls : Array Slot}
    (I : gI X M F L C S lv ws p R s m meth c H locs kc ks ls) {T : State} (hT : T.heap = H) (Xs : Stand p X.l e R s m args below meth c T locs kc ks)
    {g : JFrame} (hg : g.method = m) (hsize : g.locals.size = c.maxLocals) {ig : Instr} {len : Nat} (hdg : decode c.code g.pc = .ok (ig, len)) {mk : MethodId} (hn : s.methodNamed? M'.y = some mk)
    (hF : F' + 1 ≤ F) (hL : 2 * g.monitorRoom + (g.stack.map fun v => v.category).sum + (M'.maxL + 11) + L' ≤ L) (hC : C' ≤ C) (hS : S' ≤ S) :
    ∃ (r : gO) (ws' : va_W) (T' : State) (Ls : List Loc), Post' r ws' ∧ Stand p X.l e R s m args below meth c T' (locs ++ Ls) (kc + C') (ks + S') ∧
      gI X M F L (C - C') (S - S') lv ws' p R s m meth c T'.heap (locs ++ Ls) (kc + C') (ks + S') ls ∧ gBack p e below T T' g len mk As r := by
  obtain ⟨mk', methk, ck, hn', a1, a2, a3, a4, a5, a6, a7, a8⟩ := hcode.spec I.T
  cases hn.symm.trans hn'
  obtain ⟨⟨rF, rL, rC, rS⟩⟩ := And.intro I.2.1 trivial
  have hTn : T.methodNamed? M'.y = some mk := Xs.named hn
  have hmk : T.vm.method? mk = some methk := by rw [Xs.warmed.alike.method?]; exact a1
  have hpk : T.plainMethod mk := by
    refine State.plainMethod.of_name (fun k hk => ?_)
    obtain ⟨k', hk', hnm⟩ := className_of_methodNamed hTn
    cases hk.symm.trans hk'
    rw [hnm]
    exact hplain
  obtain ⟨Y, hdo⟩ := Xs.into (g := g) hg hsize hdg As.toArray (R' := { frames := F', cells := C', slots := S', locals := L' }) hmk a2 a7 hpk (by show F' + 1 ≤ R.frames; omega) (by show _ + (ck.maxLocals + 11) + L' ≤ R.locals; rw [a4]; omega) (by show kc + C' ≤ R.cells; omega) (by show ks + S' ≤ R.slots; omega)
  have hl := lv_entry As (n := M'.maxL) hent
  have hvm : (T.calling g mk As.toArray).vm = T.vm := by simp [State.calling, State.pushFrame, State.setFrames, State.setTop, State.modifyTopJava]
  have hhp : (T.calling g mk As.toArray).heap = H := by rw [← hT]; simp [State.calling, State.pushFrame, State.setFrames, State.setTop, State.modifyTopJava]
  have hWm : s.WarmedH (T.calling g mk As.toArray).vm := by rw [hvm]; exact Xs.warmed
  have hlow := I.low.of I.sS
  have I' : gI X M' F' L' C' S' (lv_args 0 As) ws p { frames := F', cells := C', slots := S', locals := L' } (T.calling g mk As.toArray) mk methk ck H [] 0 0 ((lg_sl As ++ List.replicate (M'.maxL - (lg_sl As).length) Slot.unset).toArray) := by
    refine ⟨⟨I.x, a3, a4, a6, a7, ?_, a5, fun hi => (name_of_methodNamed hn a1).1.trans hi⟩, ⟨Nat.le_refl _, Nat.le_refl _, by show 0 + C' ≤ C'; omega, by show 0 + S' ≤ S'; omega⟩, hl, I.T.moved hWm, by rw [hhp]; exact hlow, I.P, ⟨I.dd.1, fun k q hk => ⟨(I.dd.2 k q hk).1, fun cell hc => ?_⟩⟩, by rw [hhp]; exact va_S.rf⟩
    · rw [hvm]
      exact findClass_of_methodNamed hTn
    · obtain ⟨cell', h1, h2⟩ := gNS (q := q.1) (x := q.2) I.P hk
      rw [hhp] at hc
      cases h1.symm.trans hc
      exact h2
  obtain ⟨t, hsteps, o, r, ws', b1, b2, b3, b4, b5, b6, Ls, c1, c2, c3⟩ := con p e { frames := F', cells := C', slots := S', locals := L' } (T.calling g mk As.toArray) mk As.toArray (.java g :: below) methk ck H [] 0 0 _ I' _ (by rw [gHeapPush]; exact hT) Y
  have hsteps' : ∀ acts, Steps p.tables e below (doInvoke e (T.setTop g) acts mk As.toArray).1 t := by
    intro acts
    rw [← lg_entry_eq, ← a4] at hsteps
    rw [hdo acts]
    exact gSteps.weaken (mid := [.java g]) hsteps
  have fin : ∀ {T' : State}, Stand p X.l e R s m args below meth c T' (locs ++ Ls) (kc + C') (ks + S') → T'.heap = t.heap → gI X M F L (C - C') (S - S') lv ws' p R s m meth c T'.heap (locs ++ Ls) (kc + C') (ks + S') ls := by
    intro T' X' hh
    have up : ∀ q, gA X (T.calling g mk As.toArray) q → gA X s q := by
      refine fun q h => ⟨h.1, fun c0 h0 => ?_⟩
      obtain ⟨c1', e1, -⟩ := Xs.same.2.2.2.2.2 q c0 h0
      have e1' : T.heap[q]? = some c1' := e1
      rw [← gKind Xs.same h0 e1']
      exact h.2 c1' (by rw [hhp, ← hT]; exact e1')
    refine ⟨I.1, ⟨rF, rL, by omega, by omega⟩, I.hl, I.T, I.low, by rw [hh]; exact b5, ⟨b6.1, fun k q hk => ⟨b6.2 k q hk, fun c0 h0 => ?_⟩⟩, X'.same.2.1, fun q h1 h2 => ?_, fun q hq => ?_⟩
    · obtain ⟨cell', h1, h2⟩ := gNS (q := q.1) (x := q.2) b5 hk
      rw [← gKind X'.same h0 (by rw [hh]; exact h1)]
      exact h2
    · rw [hh, c3.2.1 q (by rw [hhp]; exact Nat.lt_of_lt_of_le h1 I.sS.1) (fun z => h2 (up q z)), hhp]
      exact I.sS.2.1 q h1 h2
    · rcases List.mem_append.mp hq with h | h
      · exact I.sS.2.2 q h
      · exact up _ (c3.2.2 q h)
  cases r with
  | inl v =>
    cases b3
    obtain ⟨T', X', -, -, ht⟩ := Xs.outOf hg hdg b2 c1 c2
    have hh : T'.heap = t.heap := by rw [ht, gHeapTop]
    refine ⟨.inl v, ws', T', Ls, b4, X', fin X' hh, fun acts => ?_⟩
    rw [← ht]
    exact hsteps' acts
  | inr k =>
    obtain ⟨x, cell, rfl, d1, d2, d3⟩ := b3
    obtain ⟨T', X', -, -, ht⟩ := Xs.outOfThrown hg b2 c1 c2
    have hh : T'.heap = t.heap := by rw [ht, gHeapPush]
    have hv : T'.vm = t.vm := by rw [ht, gVmPush]
    refine ⟨.inr k, ws', T', Ls, b4, X', fin X' hh, x, cell, fun acts => ?_, by rw [hh]; exact d1, d2, by rw [hv]; exact d3⟩
    rw [← ht]
    exact hsteps' acts
-- a throw that no row of the table covers leaves the method
theorem g_leave {X : gX} {M : gM} {F L C S : Nat} {lv : List (Nat × Value)} {ws : va_W} {Post : gO → va_W → Prop}
    {p : Program} {e : Env} {R : Room} {s : State} {m : MethodId} {args : Array Value} {below : List Frame} {meth : Method} {c : Code} {H : Heap} {locs : List Loc} {kc ks : Nat} {ls : Array Slot}
    (I : gI X M F L C S lv ws p R s m meth c H locs kc ks ls) (hh : M.hh = some []) {T : State} (hT : T.heap = H) (Xs : Stand p X.l e R s m args below meth c T locs kc ks)
    {g : JFrame} (hg : g.method = m) (hlocked : g.locked = none) (hentered : g.entered = []) {k : Nat} {x : Addr} {cell : Cell} (h1 : T.heap[x]? = some cell) (h2 : cell.vm.isStatics = false) (h3 : T.vm.findClass (gEx k) = some cell.cls) (hp : Post (.inr k) ws) :
    ∃ t, Steps p.tables e below ((T.setTop g).pushFrame (.throwing x)) t ∧ gE X below s R Post t := by
  have hlocks := I.lk
  have he : c.exceptionTable.toList = [] := by
    have := I.tab hh
    simpa using this
  obtain ⟨a1, a2, a3, a4, a5⟩ := Xs.leaveThrown x hg hlocked hentered (by rw [he]; intro y hy; cases hy) hlocks
  refine ⟨_, a1, .threw x, .inr k, ws, a2, a3, ⟨x, cell, rfl, ?_, h2, ?_⟩, hp, ?_, I.dd.weaken (fun _ _ _ h => h.1), locs, a4, a5.mono ?_ ?_, ?_⟩
  · exact h1
  · exact h3
  · show va_P X.D vwCl ws T.heap
    rw [hT]
    exact I.P
  · have := I.2.1.2.2.1; omega
  · have := I.2.1.2.2.2; omega
  · show va_S (gA X s) s.heap T.heap locs
    rw [hT]
    exact I.sS
def gML (own : String) (idx : Nat) (y : MethodName) : Prop := Cond.methodLink own idx y ∈ gTW ∨ ∃ h : String, Cond.methodLinkNest own idx y h ∈ gTW
def gNP (y : MethodName) (n : Nat) : Prop := y.cls ≠ "java/lang/invoke/MethodHandle" ∧ y.cls ≠ "java/lang/invoke/VarHandle" ∧ (parseMethodDescriptor y.desc).map (fun d => d.parameters.length) = some n ∧ plainName y.cls = true
def gCV (own : String) (idx : Nat) (M : gM) (n : Nat) : Prop := gCode M ∧ gML own idx M.y ∧ Cond.instanceMethod M.y ∈ gTW ∧ Cond.selects M.y.cls M.y M.y ∈ gTW ∧ gNP M.y n
def gCS (own : String) (idx : Nat) (M : gM) (n : Nat) : Prop := gCode M ∧ gML own idx M.y ∧ Cond.static M.y ∈ gTW ∧ Cond.initialized M.y.cls ∈ gTW ∧ gNP M.y n
def gCI (own : String) (idx : Nat) (M : gM) (n : Nat) : Prop := gCode M ∧ M.hh = some [] ∧ M.ret = none ∧ Cond.code M.y M.code M.maxL M.ret ∈ gTW ∧ gML own idx M.y ∧ Cond.instanceMethod M.y ∈ gTW ∧ M.y.name = "<init>" ∧ gNP M.y n
section GC
variable {X : gX} {M M' : gM} {F L C S F' L' C' S' : Nat} {pc pc' : Nat} {lv : List (Nat × Value)} {st : List Value} {ws : va_W} {Post Post' : gO → va_W → Prop}
-- what is done when the call is back
theorem g_after {p : Program} {e : Env} {R : Room} {s : State} {m : MethodId} {args : Array Value} {below : List Frame} {meth : Method} {c : Code} {T T' : State} {locs : List Loc} {kc ks : Nat} {ls : Array Slot} {r : gO} {ws' : va_W} {mk : MethodId} {As : List Value}
    (kk : ∀ v w, Post' (.inl v) w → G X M F L C S (pc + 3) lv (v.toList ++ st) w Post) (kt : ∀ k w, Post' (.inr k) w → M.hh = some [] ∧ Post (.inr k) w)
    (hp : Post' r ws') (X' : Stand p X.l e R s m args below meth c T' locs kc ks) (I' : gI X M F L C S lv ws' p R s m meth c T'.heap locs kc ks ls) (hb : gBack p e below T T' (F0 m pc ls st) 3 mk As r) :
    ∃ t, (∀ acts, Steps p.tables e below (doInvoke e (T.setTop (F0 m pc ls st)) acts mk As.toArray).1 t) ∧ gE X below s R Post t := by
  cases r with
  | inl v =>
    obtain ⟨t, h1, h2⟩ := kk v ws' hp p e R s m args below meth c T'.heap locs kc ks ls I' T' rfl X'
    exact ⟨t, fun acts => (hb acts).trans h1, h2⟩
  | inr k =>
    obtain ⟨x, cell, h1, h2, h3, h4⟩ := hb
    obtain ⟨hh, hp'⟩ := kt k ws' hp
    obtain ⟨t, h5, h6⟩ := g_leave (Post := Post) I' hh rfl X' (g := F0 m pc ls st) rfl rfl rfl h2 h3 h4 hp'
    exact ⟨t, fun acts => (h1 acts).trans h5, h6⟩
theorem g_callV {idx n q ci b : Nat} {fs As : List Value} {K : u_T} {N : Nat} (hc : gCV M.y.cls idx M' n) (hd : gD M pc (.invokevirtual idx) 3 pc') (hci : vwCl[ci]? = some (M'.y.cls, K, N)) (he : ws[q]? = some (b, .inr (ci, fs))) (hn : As.length = n)
    (con : G X M' F' L' C' S' 0 (lv_args 0 (.ref b :: As)) [] ws Post') (hent : (lg_sl (.ref b :: As)).length ≤ M'.maxL) (hst : (st.map fun v => v.category).sum ≤ 8)
    (hF : F' + 1 ≤ F) (hL : 8 + (M'.maxL + 11) + L' ≤ L) (hC : C' ≤ C) (hS : S' ≤ S)
    (kk : ∀ v w, Post' (.inl v) w → G X M F L (C - C') (S - S') pc' lv (v.toList ++ st) w Post) (kt : ∀ k w, Post' (.inr k) w → M.hh = some [] ∧ Post (.inr k) w) :
    G X M F L C S pc lv (As.reverse ++ .ref b :: st) ws Post := by
  obtain ⟨hd, rfl⟩ := hd
  obtain ⟨hcode, hlk, hin, hsel, h1, h2, h3, hpl⟩ := hc
  intro p e R s m args below meth c H locs kc ks ls I T hT Xs
  obtain ⟨mk, methM, hnamed, hmethM, hstM, habM⟩ := Cond.instanceMethod_spec (I.w args hin)
  obtain ⟨mk', methk, ck, hn', a1, a2, a3, a4, a5, a6, a7, a8⟩ := hcode.spec I.T
  cases hnamed.symm.trans hn'
  cases hmethM.symm.trans a1
  obtain ⟨c2, r2, m2, q1, q2, q3, q4, kP, hkP, hkPi⟩ := Cond.selects_spec (I.w args hsel)
  obtain ⟨cellB, hcB, hoB, hclB⟩ := va_recv I.K I.P hci he
  cases hclB.symm.trans q1
  cases (State.methodFound?_of_named hnamed ⟨h1, h2⟩).symm.trans q2
  cases hnamed.symm.trans q3
  have hselP : selectMethod e.platform s.vm cellB.cls mk = .method mk := by rw [Launch.admits_selectMethod Xs.admits]; exact q4
  have hlen : As.length = methM.sig.parameters.length := by
    rw [a8] at h3
    exact hn.trans (Option.some.inj h3).symm
  have hdg : decode c.code (F0 m pc ls (As.reverse ++ .ref b :: st)).pc = .ok (.invokevirtual idx, 3) := by rw [I.b]; exact hd
  have go : ∃ vm₁, Stand p X.l e R s m args below meth c (T.setVm vm₁) locs kc ks ∧
      ∀ target, (∀ acts, Steps p.tables e below (doInvoke e ((T.setVm vm₁).setTop (F0 m pc ls st)) acts mk (.ref b :: As).toArray).1 target) → Steps p.tables e below (T.setTop (F0 m pc ls (As.reverse ++ .ref b :: st))) target := by
    rcases hlk with hlk | ⟨h, hlk⟩
    · exact Xs.invokevirtual I.x I.own (I.w args hlk) hnamed hmethM hstM hkP hkPi ⟨h1, h2⟩ (a := b) (cell := cellB) (by rw [hT]; exact hcB) (fun z h => by rw [h] at hoB; cases hoB) hselP hmethM habM hkP hkPi (g := F0 m pc ls (As.reverse ++ .ref b :: st)) rfl (argsL := As) (rest := st) hlen rfl hdg
    · exact Xs.invokevirtualNest I.x I.own (I.w args hlk) hnamed hmethM hstM hkP hkPi ⟨h1, h2⟩ (a := b) (cell := cellB) (by rw [hT]; exact hcB) (fun z h => by rw [h] at hoB; cases hoB) hselP hmethM habM hkP hkPi (g := F0 m pc ls (As.reverse ++ .ref b :: st)) rfl (argsL := As) (rest := st) hlen rfl hdg
  obtain ⟨vm₁, X₁, hstep⟩ := go
  have h8 : 2 * (F0 m pc ls st).monitorRoom + ((F0 m pc ls st).stack.map fun v => v.category).sum ≤ 8 := lv_room hst
  obtain ⟨r, ws', T', Ls, hp, X', I', hb⟩ := g_enter con hent hcode hpl I (T := T.setVm vm₁) hT X₁ (g := F0 m pc ls st) rfl (I.hl.1.trans I.ml.symm) (by rw [I.b]; exact hd) hnamed hF (by omega) hC hS
  obtain ⟨t, h5, h6⟩ := g_after kk kt hp X' I' hb
  exact ⟨t, hstep t h5, h6⟩
theorem g_callS {idx n : Nat} {As : List Value} (hc : gCS M.y.cls idx M' n) (hd : gD M pc (.invokestatic idx) 3 pc') (hn : As.length = n)
    (con : G X M' F' L' C' S' 0 (lv_args 0 As) [] ws Post') (hent : (lg_sl As).length ≤ M'.maxL) (hst : (st.map fun v => v.category).sum ≤ 8)
    (hF : F' + 1 ≤ F) (hL : 8 + (M'.maxL + 11) + L' ≤ L) (hC : C' ≤ C) (hS : S' ≤ S)
    (kk : ∀ v w, Post' (.inl v) w → G X M F L (C - C') (S - S') pc' lv (v.toList ++ st) w Post) (kt : ∀ k w, Post' (.inr k) w → M.hh = some [] ∧ Post (.inr k) w) :
    G X M F L C S pc lv (As.reverse ++ st) ws Post := by
  obtain ⟨hd, rfl⟩ := hd
  obtain ⟨hcode, hlk, hsta, hini, h1, h2, h3, hpl⟩ := hc
  intro p e R s m args below meth c H locs kc ks ls I T hT Xs
  obtain ⟨mk, methk, ck, hnamed, a1, a2, a3, a4, a5, a6, a7, a8⟩ := hcode.spec I.T
  have hstatic : methk.isStatic = true := Cond.static_spec hnamed a1 (I.w args hsta)
  obtain ⟨kP, hkP, -⟩ := className_of_methodNamed hnamed
  have hinitP : kP.init = .initialized := Cond.initialized_spec (findClass_of_methodNamed hnamed) hkP (I.w args hini)
  have hlen : As.length = methk.sig.parameters.length := by
    rw [a8] at h3
    exact hn.trans (Option.some.inj h3).symm
  have hdg : decode c.code (F0 m pc ls (As.reverse ++ st)).pc = .ok (.invokestatic idx, 3) := by rw [I.b]; exact hd
  have go : ∃ vm₁, Stand p X.l e R s m args below meth c (T.setVm vm₁) locs kc ks ∧
      ∀ target, (∀ acts, Steps p.tables e below (doInvoke e ((T.setVm vm₁).setTop (F0 m pc ls st)) acts mk As.toArray).1 target) → Steps p.tables e below (T.setTop (F0 m pc ls (As.reverse ++ st))) target := by
    rcases hlk with hlk | ⟨h, hlk⟩
    · exact Xs.invokestatic I.x I.own (I.w args hlk) hnamed a1 hstatic hkP hinitP ⟨h1, h2⟩ (g := F0 m pc ls (As.reverse ++ st)) rfl (argsL := As) (rest := st) hlen rfl hdg
    · exact Xs.invokestaticNest I.x I.own (I.w args hlk) hnamed a1 hstatic hkP hinitP ⟨h1, h2⟩ (g := F0 m pc ls (As.reverse ++ st)) rfl (argsL := As) (rest := st) hlen rfl hdg
  obtain ⟨vm₁, X₁, hstep⟩ := go
  have h8 : 2 * (F0 m pc ls st).monitorRoom + ((F0 m pc ls st).stack.map fun v => v.category).sum ≤ 8 := lv_room hst
  obtain ⟨r, ws', T', Ls, hp, X', I', hb⟩ := g_enter con hent hcode hpl I (T := T.setVm vm₁) hT X₁ (g := F0 m pc ls st) rfl (I.hl.1.trans I.ml.symm) (by rw [I.b]; exact hd) hnamed hF (by omega) hC hS
  obtain ⟨t, h5, h6⟩ := g_after kk kt hp X' I' hb
  exact ⟨t, hstep t h5, h6⟩
theorem g_callI {idx n b : Nat} {As : List Value} (hc : gCI M.y.cls idx M' n) (hd : gD M pc (.invokespecial idx) 3 pc') (hn : As.length = n)
    (con : G X M' F' L' C' S' 0 (lv_args 0 (.ref b :: As)) [] ws Post') (hent : (lg_sl (.ref b :: As)).length ≤ M'.maxL) (hst : (st.map fun v => v.category).sum ≤ 8)
    (hF : F' + 1 ≤ F) (hL : 8 + (M'.maxL + 11) + L' ≤ L) (hC : C' ≤ C) (hS : S' ≤ S)
    (kk : ∀ v w, Post' (.inl v) w → G X M F L (C - C') (S - S') pc' lv (v.toList ++ st) w Post) (kt : ∀ k w, Post' (.inr k) w → M.hh = some [] ∧ Post (.inr k) w) :
    G X M F L C S pc lv (As.reverse ++ .ref b :: st) ws Post := by
  obtain ⟨hd, rfl⟩ := hd
  obtain ⟨hcode, hh0, hr0, hcw, hlk, hin, hnm, h1, h2, h3, hpl⟩ := hc
  intro p e R s m args below meth c H locs kc ks ls I T hT Xs
  have hpl' : e.platform.magicAccessors = ({} : Platform).magicAccessors := by rw [Xs.admits.platform]
  have hlen : ∀ sig, parseMethodDescriptor M'.y.desc = some sig → As.length = sig.parameters.length := fun sig h => by
    rw [h] at h3
    exact hn.trans (Option.some.inj h3).symm
  have hcw' : (Cond.code M'.y M'.code M'.maxL none).before args s = true := by rw [← hr0]; exact I.w args hcw
  have hdg : decode c.code (F0 m pc ls (As.reverse ++ .ref b :: st)).pc = .ok (.invokespecial idx, 3) := by rw [I.b]; exact hd
  have go : ∃ (mk : MethodId) (vm₁ : Vm), s.methodNamed? M'.y = some mk ∧ s.WarmedH vm₁ ∧
      ∀ target, (∀ acts, Steps p.tables e below (doInvoke e ((T.setVm vm₁).setTop (F0 m pc ls st)) acts mk (.ref b :: As).toArray).1 target) → Steps p.tables e below (T.setTop (F0 m pc ls (As.reverse ++ .ref b :: st))) target := by
    rcases hlk with hlk | ⟨h, hlk⟩
    · obtain ⟨mk, methM, cM, kP, vm₁, hnamed, -, -, -, -, -, -, -, hW₁, hstep₁⟩ := Steps.initColdArgs (e := e) Xs.here I.x Xs.warmed hpl' I.own hnm ⟨h1, h2⟩ (I.w args hlk) (I.w args hin) hcw' (f := F0 m pc ls (As.reverse ++ .ref b :: st)) rfl hlen rfl hdg
      exact ⟨mk, vm₁, hnamed, hW₁, hstep₁⟩
    · obtain ⟨mk, methM, cM, kP, vm₁, hnamed, -, -, -, -, -, -, -, hW₁, hstep₁⟩ := Steps.initColdArgsNest (e := e) Xs.here I.x Xs.warmed hpl' I.own hnm ⟨h1, h2⟩ (I.w args hlk) (I.w args hin) hcw' (f := F0 m pc ls (As.reverse ++ .ref b :: st)) rfl hlen rfl hdg
      exact ⟨mk, vm₁, hnamed, hW₁, hstep₁⟩
  obtain ⟨mk, vm₁, hnamed, hW₁, hstep⟩ := go
  have X₁ := Xs.noted hW₁
  have h8 : 2 * (F0 m pc ls st).monitorRoom + ((F0 m pc ls st).stack.map fun v => v.category).sum ≤ 8 := lv_room hst
  obtain ⟨r, ws', T', Ls, hp, X', I', hb⟩ := g_enter con hent hcode hpl I (T := T.setVm vm₁) hT X₁ (g := F0 m pc ls st) rfl (I.hl.1.trans I.ml.symm) (by rw [I.b]; exact hd) hnamed hF (by omega) hC hS
  obtain ⟨t, h5, h6⟩ := g_after kk kt hp X' I' hb
  exact ⟨t, hstep t h5, h6⟩
end GC
