/-! A throw of ours: new, dup, the text, the constructor, athrow -/
-- the state of now, as if the method had just been invoked
def gNow (T : State) (m : MethodId) (args : Array Value) (below : List Frame) : State := T.setFrames (.invoking m args :: below)
theorem gNow_vm (T : State) (m : MethodId) (args : Array Value) (below : List Frame) : (gNow T m args below).vm = T.vm := rfl
theorem gNow_heap (T : State) (m : MethodId) (args : Array Value) (below : List Frame) : (gNow T m args below).heap = T.heap := rfl
theorem gHears {s T : State} (hW : s.WarmedH T.vm) {m : MethodId} {args : Array Value} {below : List Frame} (h : s.hears m below = true) : (gNow T m args below).hears m below = true := by
  have hc : ∀ mm, (gNow T m args below).code? mm = s.code? mm := fun mm => by rw [State.code?_eq, State.code?_eq, gNow_vm, hW.alike.method?]
  have hm : (gNow T m args below).vm.method? m = s.vm.method? m := by rw [gNow_vm, hW.alike.method?]
  unfold State.hears at h ⊢
  split at h
  · simp only [hc]
    exact h
  · rfl
  · rfl
  · simp only [hm]
    exact h
theorem gRebase {p : Program} {l : Launch} {e : Env} {R : Room} {s : State} {m : MethodId} {args : Array Value} {below : List Frame} {meth : Method} {c : Code} {T : State} {locs : List Loc} {kc ks : Nat}
    (X : Stand p l e R s m args below meth c T locs kc ks) (hc : kc ≤ R.cells) (hs : ks ≤ R.slots) : Stand p l e { R with cells := R.cells - kc, slots := R.slots - ks } (gNow T m args below) m args below meth c T [] 0 0 := by
  obtain ⟨g₀, hg0⟩ := X.frames_eq
  have hcur : T.cur < T.threads.size := State.cur_lt_of_frames hg0
  have hF : (gNow T m args below).frames = .invoking m args :: below := State.frames_setFrames _ hcur
  have hm : (gNow T m args below).vm.method? m = some meth := by rw [gNow_vm, X.warmed.alike.method?]; exact X.method
  obtain ⟨t, ht, -⟩ := State.frames_cons hF
  refine ⟨X.admits, X.cas, X.clock, hF, ?_, gHears X.warmed X.hears, hm, X.code, X.here, X.tail, State.WarmedH.refl (gNow T m args below), ?_, ?_, ?_⟩
  · obtain ⟨r1, r2, r3, r4⟩ := State.hasRoom_stack X.room
    have r5 := State.hasRoom_real X.room
    have h := X.room
    simp only [State.hasRoom, Bool.and_eq_true, decide_eq_true_eq] at h
    rw [State.localsInUse_invoking X.frames X.method X.code] at r3 r4 r5
    rw [X.frames] at r1 r2
    have hU := State.localsInUse_invoking hF hm X.code
    have l1 : e.platform.stackLimits (gNow T m args below).me = e.platform.stackLimits s.me := (State.stackLimits_setFrames _ _ _).trans X.limits
    have l2 : (gNow T m args below).me.stackBytes = s.me.stackBytes := (State.stackBytes_setFrames _ _).trans X.bytes
    simp only [State.hasRoom, Bool.and_eq_true, decide_eq_true_eq, hF, hU, l1, l2]
    refine ⟨⟨⟨⟨r5, r1, r2, r3, r4, h.1.1.1.2.2.2.2.2⟩, ?_⟩, ?_⟩, ?_⟩
    · have h1 := h.1.1.2
      have h2 := X.heapSize
      show T.heap.size + (R.cells - kc) ≤ _
      omega
    · have h1 := h.1.2
      have h2 := X.used
      show T.slotsUsed + (R.slots - ks) ≤ _
      omega
    · exact X.book
  · exact (State.stackLimits_setFrames _ _ _).symm
  · exact (State.stackBytes_setFrames _ _).symm
  · have h := (State.sameButNew.refl (gNow T m args below) ht).setFrames T.frames (State.cur_lt_of_frames hF)
    obtain ⟨th, hth, -⟩ := State.frames_cons hg0
    have e1 : (gNow T m args below).setFrames T.frames = T := by
      unfold gNow
      rw [State.setFrames_setFrames, State.setFrames_self hth]
    rw [e1] at h
    exact h
def gIc : Nat → Nat
  | 0 => 133
  | 1 => 102
  | 2 => 159
  | _ => 259
def gNm : List String := ["java/lang/RuntimeException", "java/lang/Exception"]
def gOth : List Cond := [.laysStatic Bundle.tN "UNASSIGNED_STACK" Bundle.steD, .laysStatic Bundle.tN "SUPPRESSED_SENTINEL" Bundle.listD, .isRef (.static Bundle.tN "UNASSIGNED_STACK" Bundle.steD), .isRef (.static Bundle.tN "SUPPRESSED_SENTINEL" Bundle.listD)]
theorem own_in : ∀ k, k < 4 → ∀ w ∈ Bundle.ownAtoms "SelfArranger" (gIc k) (gEx k) gNm, w ∈ gTW ∨ w ∈ gOth := by decide +kernel
theorem exn_in : ∀ k, k < 4 → Cond.instantiable (gEx k) 6 ∈ gTW ∧ Cond.initialized (gEx k) ∈ gTW ∧ Bundle.fit (gEx k) = true := by decide +kernel
theorem nm_fit : ∀ n ∈ gNm, Bundle.fit n = true := by decide +kernel
theorem gLS.lay {X : gX} {U : State} {owner name desc : String} (h : gLS X U owner name desc) (hL : gLow X U.heap) (args : Array Value) : (Cond.laysStatic owner name desc).before args U = true ∧ (Cond.isRef (.static owner name desc)).before args U = true := by
  obtain ⟨c, k, i, f, a, cell, v, h1, h2, h3, h4, h5, h6, h7, h8, h9, h10, h11⟩ := h
  have hc : U.heap[a]? = some cell := (hL.2 a (Array.getElem?_eq_some_iff.mp h5).1).trans h5
  have e1 : (Term.static owner name desc).eval args U none [] U = some v := by simp [Term.eval, State.fieldNamed?, h2, h3, h4, hc, h6, h10]
  refine ⟨?_, ?_⟩
  · simp [Cond.before, Cond.holds, Cond.value, h1, h2, h3, h4, hc, h6, h7, h8, h9]
  · have e2 : (Cond.isRef (.static owner name desc)).before args U = v.isRef := by
      simp only [Cond.before, Cond.holds, Cond.value, e1]
      cases v <;> rfl
    rw [e2]
    exact h11
section GTH
variable {X : gX} {M : gM} {F L C S : Nat} {pc p1 p2 p3 p4 p5 : Nat} {lv : List (Nat × Value)} {st : List Value} {ws : va_W} {Post : gO → va_W → Prop}
theorem gLdc {p : Program} {l : Launch} {e : Env} {R : Room} {s : State} {m : MethodId} {args : Array Value} {below : List Frame} {meth : Method} {c : Code} {H : Heap} {locs : List Loc} {kc ks : Nat} {Q : State → Prop} {ls : Array Slot} {rest : List Value} {cc : ByteArray}
    (hexec : p.tables.exec = Jvm.exec) (hb : c.code = cc) {own tx : String} {index q : Nat} (hown : s.vm.findClass own = some m.cls) (hZ : vk_R own index tx q s) (hdg : (decode cc p2 = .ok (.ldc index, 2) ∧ p2 + 2 = p3) ∨ (decode cc p2 = .ok (.ldc_w index, 3) ∧ p2 + 3 = p3))
    (k : W p l e R s m args below meth c H locs kc ks Q (F0 m p3 ls (.ref q :: rest))) : W p l e R s m args below meth c H locs kc ks Q (F0 m p2 ls rest) := by
  rcases hdg with ⟨hd, rfl⟩ | ⟨hd, rfl⟩
  · exact va_ldcS hexec hb hown hZ hd k
  · intro T hT X
    obtain ⟨t, a1, b1⟩ := k T hT X
    exact ⟨t, X.ldcStringW hexec hown (text := tx) (a := q) hZ.1 hZ.2 (g := F0 m p2 ls rest) rfl (by rw [hb]; exact hd) t a1, b1⟩
set_option maxHeartbeats 1000000 in
theorem g_throw (hX : X.l.stackTraces = false) {k icl is : Nat} {tx : String} (hk : k < 4) (hM : M.y.cls = "SelfArranger") (hh : M.hh = some []) (hcl : Cond.classLink "SelfArranger" icl (gEx k) ∈ gTW) (hq : ("SelfArranger", is, tx) ∈ gSTR)
    (hd0 : gD M pc (.new icl) 3 p1) (hd1 : gD M p1 .dup 1 p2) (hd2 : gD M p2 (.ldc is) 2 p3 ∨ gD M p2 (.ldc_w is) 3 p3) (hd3 : gD M p3 (.invokespecial (gIc k)) 3 p4) (hd4 : gD M p4 .athrow 1 p5)
    (hF : 6 ≤ F) (hL : 90 ≤ L) (hC : 1 ≤ C) (hS : 6 ≤ S) (hst : (st.map fun v => v.category).sum ≤ 8) (hP : Post (.inr k) ws) : G X M F L C S pc lv st ws Post := by
  obtain ⟨hd0, rfl⟩ := hd0
  obtain ⟨hd1, rfl⟩ := hd1
  obtain ⟨hd3, rfl⟩ := hd3
  obtain ⟨hd4, rfl⟩ := hd4
  intro p e R s m args below meth c H locs kc ks ls I T hT Xs
  obtain ⟨rF, rL, rC, rS⟩ := I.2.1
  have Y := gRebase Xs (by omega) (by omega)
  generalize hs' : gNow T m args below = s' at Y
  have hv : s'.vm = T.vm := by rw [← hs']; rfl
  have hhp : s'.heap = H := by rw [← hs', ← hT]; rfl
  have hT' : gT X s' := I.T.moved (by rw [hv]; exact Xs.warmed)
  have hlow : gLow X s'.heap := by rw [hhp]; exact I.low.of I.sS
  have hw : ∀ w ∈ gTW, w.before args s' = true := fun w h => va_tabs (gTW_on w h) rfl (hT'.1 w h)
  have hown : s'.vm.findClass "SelfArranger" = some m.cls := by
    have := I.own
    rw [hM] at this
    rw [hv, Xs.warmed.alike.findClass]
    exact this
  obtain ⟨q, hZ⟩ := hT'.2.2.2.2.2.2.2.2.2.2.1 _ hq
  obtain ⟨x1, x2, x3⟩ := exn_in k hk
  have htr : e.platform.stackTraces = false := by rw [Xs.admits.platform]; exact hX
  have hat : ∀ w ∈ Bundle.ownAtoms "SelfArranger" (gIc k) (gEx k) gNm, w.before args s' = true := by
    intro w hin
    rcases own_in k hk w hin with h | h
    · exact hw w h
    · have y1 := hT'.2.2.2.2.2.2.2.2.2.2.2.1.lay hlow args
      have y2 := hT'.2.2.2.2.2.2.2.2.2.2.2.2.1.lay hlow args
      simp only [gOth, List.mem_cons, List.not_mem_nil, or_false] at h
      rcases h with rfl | rfl | rfl | rfl
      · exact y1.1
      · exact y2.1
      · exact y1.2
      · exact y2.2
  have he : c.exceptionTable.toList = [] := by
    have := I.tab hh
    simpa using this
  have chain : W p X.l e { R with cells := R.cells - kc, slots := R.slots - ks } s' m args below meth c H [] 0 0
      (fun U => ∃ (a : Addr) (ce : Cell), U.status = .running ∧ Ended U below (.threw a) ∧ s'.WarmedH U.vm ∧ s'.sameButNew ({ U with vm := s'.vm } : State) [] 1 6 ∧ U.heap[a]? = some ce ∧ Bundle.OwnCell args s' (gEx k) a (.ref q) ce) (F0 m pc ls st) := by
    refine W.newc I.x I.b hown (hw _ hcl) (hw _ x1) (hw _ x2) (g := F0 m pc ls st) rfl hd0 (by show 0 + 1 ≤ R.cells - kc; omega) (by show 0 + 6 ≤ R.slots - ks; omega) fun cC kC h1 h2 h3 h4 => ?_
    refine lv_dup I.x I.b hd1 rfl ?_
    refine gLdc I.x I.b hown hZ hd2 ?_
    intro T2 hT2 X2
    obtain ⟨U, u1, u2, u3, u4, u5, ce, u6, u7⟩ := X2.ctorThrowS I.x htr (names := gNm) hown x3 nm_fit hat (fun x hx => by cases hx) h1 h2 (a := H.size) (by rw [hT2]; simp) (by rw [hhp]; exact Nat.le_refl _) (msg := .ref q) rfl (g := F0 m p3 ls (.ref q :: .ref H.size :: .ref H.size :: st)) rfl (I.hl.1.trans I.ml.symm) rfl rfl rfl
      (by rw [I.b]; exact hd3) (by rw [I.b]; exact hd4) (by rw [he]; intro x hx; cases hx) (by show 2 + 3 < R.frames; omega)
      (by
        have h8 : 2 * (F0 m p3 ls st).monitorRoom + ((F0 m p3 ls st).stack.map fun v => v.category).sum ≤ 8 := lv_room hst
        simp only [List.map_cons, List.sum_cons]
        show 2 * (F0 m p3 ls st).monitorRoom + (1 + (st.map fun v => v.category).sum) + (13 * 3 + 42) ≤ R.locals
        have h9 : ((F0 m p3 ls st).stack.map fun v => v.category).sum = (st.map fun v => v.category).sum := rfl
        omega) I.lk
    exact ⟨U, u1, H.size, ce, u2, u3, u4, u5, u6, u7⟩
  obtain ⟨t, w1, a, ce, w2, w3, w4, w5, w6, w7⟩ := chain T hT Y
  have hold : ∀ (b : Nat), b < H.size → t.heap[b]? = H[b]? := by
    intro b hb
    obtain ⟨c0, h0⟩ : ∃ c0, H[b]? = some c0 := ⟨_, Array.getElem?_eq_getElem hb⟩
    rw [h0]
    exact w5.old_cell (a := b) (by rw [hhp]; exact h0)
  have hsm : s.sameButNew ({ t with vm := s.vm } : State) locs (kc + 1) (ks + 6) := by
    have hB : T.sameButNew ({ t with vm := T.vm } : State) [] 1 6 := by
      rw [← hs'] at w5
      obtain ⟨z1, z2⟩ := w5
      unfold gNow at z1
      rw [State.setFrames_setFrames] at z1
      exact ⟨z1, z2⟩
    have := Xs.same.trans (hB.setVm s.vm)
    rw [List.append_nil] at this
    exact this
  refine ⟨t, w1, .threw a, .inr k, ws, w2, w3, ⟨a, ce, rfl, w6, by rw [w7.vm]; rfl, ?_⟩, hP, ?_, I.dd.weaken (fun _ _ _ h => h.1), locs, ?_, hsm.mono (by omega) (by omega), ?_, ?_, I.sS.2.2⟩
  · rw [w4.alike.findClass]
    exact w7.cls
  · exact I.P.kept (fun j x hx => hold x.1 ((I.P j x hx).lt))
  · exact State.WarmedH.trans Xs.warmed (by rw [← hs'] at w4; exact w4)
  · exact hsm.2.1
  · intro b hb hn
    rw [hold b (Nat.lt_of_lt_of_le hb I.sS.1)]
    exact I.sS.2.1 b hb hn
end GTH
theorem w_throw {X : gX} {a : Nat → Nat} {M : gM} {F L C S : Nat} {pc p1 p2 p3 p4 p5 : Nat} {lv : List (Nat × Value)} {st : List Value} {c : Nat → va_E} {Post : gO → (Nat → va_E) → Prop} (hX : X.l.stackTraces = false) {k icl is : Nat} {tx : String} (hk : k < 4) (hM : M.y.cls = "SelfArranger") (hh : M.hh = some []) (hcl : Cond.classLink "SelfArranger" icl (gEx k) ∈ gTW) (hq : ("SelfArranger", is, tx) ∈ gSTR)
    (hd0 : gD M pc (.new icl) 3 p1) (hd1 : gD M p1 .dup 1 p2) (hd2 : gD M p2 (.ldc is) 2 p3 ∨ gD M p2 (.ldc_w is) 3 p3) (hd3 : gD M p3 (.invokespecial (gIc k)) 3 p4) (hd4 : gD M p4 .athrow 1 p5)
    (hF : 6 ≤ F) (hL : 90 ≤ L) (hC : 1 ≤ C) (hS : 6 ≤ S) (hst : (st.map fun v => v.category).sum ≤ 8) (hP : Post (.inr k) c) : GW X a M F L C S pc lv st c Post := g_throw hX hk hM hh hcl hq hd0 hd1 hd2 hd3 hd4 hF hL hC hS hst ⟨c, rfl, hP⟩
