/-! THE JUDGEMENT G: a method of ours, at a pc, with locals, operand stack and a world, comes to an end with Post. It hides the machine's state, rooms, tables. Every rule below is one instruction. -/
-- X: the launch, the classes' numbers, the classes of int[], boolean[], long[], Shape[], the heap at the law's start, the two static tables' addresses, the script's address, length, ints
abbrev gX : Type := Launch × va_G × (ClassId × ClassId × ClassId × ClassId) × Heap × (Nat × Nat) × (Nat × Nat × (Nat → Int32))
-- an end: a value returned, or an exception of the kind k
abbrev gO : Type := Option Value ⊕ Nat
abbrev gX.l (X : gX) : Launch := X.1
abbrev gX.D (X : gX) : va_G := X.2.1
abbrev gX.cI (X : gX) : ClassId := X.2.2.1.1
abbrev gX.cZ (X : gX) : ClassId := X.2.2.1.2.1
abbrev gX.cJ (X : gX) : ClassId := X.2.2.1.2.2.1
abbrev gX.cQ (X : gX) : ClassId := X.2.2.1.2.2.2
abbrev gX.tys (X : gX) : List (ClassId × FieldType) := [(X.cI, .int), (X.cZ, .boolean), (X.cJ, .long), (X.cQ, .object gShape)]
abbrev gX.H0 (X : gX) : Heap := X.2.2.2.1
abbrev gX.t1 (X : gX) : Nat := X.2.2.2.2.1.1
abbrev gX.t2 (X : gX) : Nat := X.2.2.2.2.1.2
abbrev gX.sb (X : gX) : Nat := X.2.2.2.2.2.1
abbrev gX.sl (X : gX) : Nat := X.2.2.2.2.2.2.1
abbrev gX.sx (X : gX) : Nat → Int32 := X.2.2.2.2.2.2.2
-- the addresses that the run may write: those that are new since the law's start, and no class's statics
def gA (X : gX) (s : State) : Nat → Prop := fun q => X.H0.size ≤ q ∧ ∀ cell : Cell, s.heap[q]? = some cell → cell.vm.isStatics = false
-- what lay there at the law's start is unchanged
def gLow (X : gX) (H : Heap) : Prop := X.H0.size ≤ H.size ∧ ∀ q, q < X.H0.size → H[q]? = X.H0[q]?
-- a method's body, met at an invocation
def gB (M : gM) (p : Program) (s : State) (m : MethodId) (meth : Method) (c : Code) : Prop :=
  p.tables.exec = Jvm.exec ∧ c.code = M.code ∧ c.maxLocals = M.maxL ∧ meth.sig.returnType = M.ret ∧ meth.locks = false ∧ s.vm.findClass M.y.cls = some m.cls ∧
    (∀ hh, M.hh = some hh → c.exceptionTable.toList.map (fun h => (h.startPc, h.endPc, h.handlerPc, h.catchType)) = hh) ∧ (M.y.name = "<init>" → meth.name = "<init>")
def gHi (X : gX) : Nat → Prop := fun q => X.H0.size ≤ q
-- the static tables FIRST_COLUMN, SECOND_COLUMN
def gF1 : Nat → Value := fun j => .int (([0, 1, 2, 0, 0, 1, 1, 2, 2] : List Int32).getD j 0)
def gF2 : Nat → Value := fun j => .int (([-1, -1, -1, 1, 2, 0, 2, 0, 1] : List Int32).getD j 0)
-- a static field of references, laid at the law's start
def gLS (X : gX) (U : State) (owner name desc : String) : Prop := ∃ (c : ClassId) (k : Class) (i : Nat) (f : Field) (a : Nat) (cell : Cell) (v : Value), U.vm.findClass owner = some c ∧ U.fieldFound? owner name desc = some (c, k, i, f) ∧ f.isStatic = true ∧ k.statics = some a ∧ X.H0[a]? = some cell ∧ cell.vm.isStatics = true ∧ cell.cls = c ∧ f.slot < cell.slots.size ∧ k.staticTypes[f.slot]? = some f.type ∧ cell.slots[f.slot]? = some v ∧ v.isRef = true
theorem gLS.moved {X : gX} {u U : State} {owner name desc : String} (hvm : u.vm.Alike U.vm) (h : gLS X u owner name desc) : gLS X U owner name desc := by
  obtain ⟨c, k, i, f, a, cell, v, h1, h2, h3, h4, h5, h6, h7, h8, h9, h10⟩ := h
  obtain ⟨k', hi', he⟩ := State.fieldFound?_setVm hvm h2
  exact ⟨c, k', i, f, a, cell, v, by rw [hvm.findClass]; exact h1, hi', h3, by rw [he]; exact h4, h5, h6, h7, h8, by rw [he]; exact h9, h10⟩
def gSt (X : gX) (U : State) : Prop :=
  va_Z "SelfArranger" "FIRST_COLUMN" "[I" (.ref X.t1) (gHi X) U X.H0 ∧ va_Z "SelfArranger" "SECOND_COLUMN" "[I" (.ref X.t2) (gHi X) U X.H0 ∧ va_T .int X.t1 9 gF1 (gHi X) U X.H0 ∧ va_T .int X.t2 9 gF2 (gHi X) U X.H0 ∧
  va_X X.sb X.sl X.sx U X.H0 ∧ X.sb < X.H0.size ∧ (∀ ty ∈ ([.int, .boolean, .long] : List FieldType), (Cond.arrayClass ty).before #[] U = true) ∧ va_AO gShape U ∧ (∀ q ∈ gSTR, ∃ a, vk_R q.1 q.2.1 q.2.2 a U) ∧
  gLS X U "java/lang/Throwable" "UNASSIGNED_STACK" "[Ljava/lang/StackTraceElement;" ∧ gLS X U "java/lang/Throwable" "SUPPRESSED_SENTINEL" "Ljava/util/List;" ∧ ∀ i j, i < 4 → j < 4 → i ≠ j → va_Nc (gEx i) (gEx j) U
theorem gSt.moved {X : gX} {s U : State} (hW : s.WarmedH U.vm) (h : gSt X s) : gSt X U := by
  obtain ⟨h1, h2, h3, h4, h5, h6, h7, h8, h9, h10, h11, h12⟩ := h
  exact ⟨h1.moved hW.alike, h2.moved hW.alike, h3.moved hW.alike, h4.moved hW.alike, h5.moved hW.alike, h6, fun ty hty => word_at hW (Or.inr ⟨ty, rfl⟩) (h7 ty hty), h8.moved hW.alike,
    fun q hq => by obtain ⟨a, ha⟩ := h9 q hq; exact ⟨a, ha.warm hW⟩, h10.moved hW.alike, h11.moved hW.alike, fun i j hi hj hij => (h12 i j hi hj hij).moved hW.alike⟩
-- what the tables say
def gT (X : gX) (U : State) : Prop := (∀ w ∈ gTW, w.before #[] U = true) ∧ va_K X.D vwCl X.tys U ∧ gSt X U
theorem gT.moved {X : gX} {s U : State} (hW : s.WarmedH U.vm) (h : gT X s) : gT X U := ⟨fun w hw => gRd_ride (List.mem_filter.mp hw).2 hW (h.1 w hw), h.2.1.moved hW.alike, h.2.2.moved hW⟩
-- an end of the machine is an end of ours
def gOut (t : State) (r : gO) (o : Outcome) : Prop := match r with
  | .inl v => o = .returned v
  | .inr k => ∃ (a : Addr) (cell : Cell), o = .threw a ∧ t.heap[a]? = some cell ∧ cell.vm.isStatics = false ∧ t.vm.findClass (gEx k) = some cell.cls
def gE (X : gX) (below : List Frame) (s : State) (R : Room) (Post : gO → va_W → Prop) (t : State) : Prop :=
  ∃ (o : Outcome) (r : gO) (ws : va_W), t.status = .running ∧ Ended t below o ∧ gOut t r o ∧ Post r ws ∧ va_P X.D vwCl ws t.heap ∧ va_D (fun q => X.H0.size ≤ q) ws ∧
    ∃ Ls : List Loc, s.WarmedH t.vm ∧ s.sameButNew ({ t with vm := s.vm } : State) Ls R.cells R.slots ∧ va_S (gA X s) s.heap t.heap Ls
-- all that holds at a point
def gI (X : gX) (M : gM) (F L C S : Nat) (lv : List (Nat × Value)) (ws : va_W) (p : Program) (R : Room) (s : State) (m : MethodId) (meth : Method) (c : Code) (H : Heap) (locs : List Loc) (kc ks : Nat) (ls : Array Slot) : Prop :=
  gB M p s m meth c ∧ (F ≤ R.frames ∧ L ≤ R.locals ∧ kc + C ≤ R.cells ∧ ks + S ≤ R.slots) ∧ lv_has ls M.maxL lv ∧ gT X s ∧ gLow X s.heap ∧ va_P X.D vwCl ws H ∧ va_D (gA X s) ws ∧ va_S (gA X s) s.heap H locs
def G (X : gX) (M : gM) (F L C S : Nat) (pc : Nat) (lv : List (Nat × Value)) (st : List Value) (ws : va_W) (Post : gO → va_W → Prop) : Prop :=
  ∀ (p : Program) (e : Env) (R : Room) (s : State) (m : MethodId) (args : Array Value) (below : List Frame) (meth : Method) (c : Code) (H : Heap) (locs : List Loc) (kc ks : Nat) (ls : Array Slot),
    gI X M F L C S lv ws p R s m meth c H locs kc ks ls → W p X.l e R s m args below meth c H locs kc ks (gE X below s R Post) (F0 m pc ls st)
theorem W.mono {p : Program} {l : Launch} {e : Env} {R : Room} {s : State} {m : MethodId} {args : Array Value} {below : List Frame} {meth : Method} {c : Code} {H : Heap} {locs : List Loc} {cells slots : Nat} {Q Q' : State → Prop} {g : JFrame}
    (h : ∀ t, Q t → Q' t) (k : W p l e R s m args below meth c H locs cells slots Q g) : W p l e R s m args below meth c H locs cells slots Q' g := fun T hT X => by
  obtain ⟨t, a, b⟩ := k T hT X
  exact ⟨t, a, h t b⟩
section GI
variable {X : gX} {M : gM} {F L C S : Nat} {lv : List (Nat × Value)} {ws : va_W} {p : Program} {R : Room} {s : State} {m : MethodId} {meth : Method} {c : Code} {H : Heap} {locs : List Loc} {kc ks : Nat} {ls : Array Slot}
theorem gI.x (I : gI X M F L C S lv ws p R s m meth c H locs kc ks ls) : p.tables.exec = Jvm.exec := I.1.1
theorem gI.b (I : gI X M F L C S lv ws p R s m meth c H locs kc ks ls) : c.code = M.code := I.1.2.1
theorem gI.ml (I : gI X M F L C S lv ws p R s m meth c H locs kc ks ls) : c.maxLocals = M.maxL := I.1.2.2.1
theorem gI.r (I : gI X M F L C S lv ws p R s m meth c H locs kc ks ls) : meth.sig.returnType = M.ret := I.1.2.2.2.1
theorem gI.lk (I : gI X M F L C S lv ws p R s m meth c H locs kc ks ls) : meth.locks = false := I.1.2.2.2.2.1
theorem gI.own (I : gI X M F L C S lv ws p R s m meth c H locs kc ks ls) : s.vm.findClass M.y.cls = some m.cls := I.1.2.2.2.2.2.1
theorem gI.tab (I : gI X M F L C S lv ws p R s m meth c H locs kc ks ls) {hh : List (Nat × Nat × Nat × Nat)} (h : M.hh = some hh) : c.exceptionTable.toList.map (fun h => (h.startPc, h.endPc, h.handlerPc, h.catchType)) = hh := I.1.2.2.2.2.2.2.1 hh h
theorem gI.nm (I : gI X M F L C S lv ws p R s m meth c H locs kc ks ls) : M.y.name = "<init>" → meth.name = "<init>" := I.1.2.2.2.2.2.2.2
theorem gI.hl (I : gI X M F L C S lv ws p R s m meth c H locs kc ks ls) : lv_has ls M.maxL lv := I.2.2.1
theorem gI.T (I : gI X M F L C S lv ws p R s m meth c H locs kc ks ls) : gT X s := I.2.2.2.1
theorem gI.low (I : gI X M F L C S lv ws p R s m meth c H locs kc ks ls) : gLow X s.heap := I.2.2.2.2.1
theorem gI.P (I : gI X M F L C S lv ws p R s m meth c H locs kc ks ls) : va_P X.D vwCl ws H := I.2.2.2.2.2.1
theorem gI.dd (I : gI X M F L C S lv ws p R s m meth c H locs kc ks ls) : va_D (gA X s) ws := I.2.2.2.2.2.2.1
theorem gI.sS (I : gI X M F L C S lv ws p R s m meth c H locs kc ks ls) : va_S (gA X s) s.heap H locs := I.2.2.2.2.2.2.2
theorem gI.K (I : gI X M F L C S lv ws p R s m meth c H locs kc ks ls) : va_K X.D vwCl X.tys s := I.T.2.1
theorem gI.w (I : gI X M F L C S lv ws p R s m meth c H locs kc ks ls) (args : Array Value) {w : Cond} (h : w ∈ gTW) : w.before args s = true := va_tabs (gTW_on w h) rfl (I.T.1 w h)
theorem gI.ts (I : gI X M F L C S lv ws p R s m meth c H locs kc ks ls) (args : Array Value) : ∀ w ∈ gTW, w.before args s = true := fun _ h => I.w args h
theorem gI.hA (I : gI X M F L C S lv ws p R s m meth c H locs kc ks ls) : ∀ q, s.heap.size ≤ q → gA X s q := fun q h => ⟨Nat.le_trans I.low.1 h, fun cell hc => absurd (Array.getElem?_eq_some_iff.mp hc).1 (Nat.not_lt.mpr h)⟩
theorem gI.wl (I : gI X M F L C S lv ws p R s m meth c H locs kc ks ls) {lv' : List (Nat × Value)} {ls' : Array Slot} (h : lv_has ls' M.maxL lv') : gI X M F L C S lv' ws p R s m meth c H locs kc ks ls' := ⟨I.1, I.2.1, h, I.2.2.2⟩
theorem gI.to (I : gI X M F L C S lv ws p R s m meth c H locs kc ks ls) {ws' : va_W} {H' : Heap} {locs' : List Loc} (hP : va_P X.D vwCl ws' H') (hD : va_D (gA X s) ws') (hS : va_S (gA X s) s.heap H' locs') : gI X M F L C S lv ws' p R s m meth c H' locs' kc ks ls := ⟨I.1, I.2.1, I.2.2.1, I.2.2.2.1, I.2.2.2.2.1, hP, hD, hS⟩
theorem gI.room (I : gI X M F L C S lv ws p R s m meth c H locs kc ks ls) {C' S' kc' ks' : Nat} (h1 : kc' + C' ≤ R.cells) (h2 : ks' + S' ≤ R.slots) : gI X M F L C' S' lv ws p R s m meth c H locs kc' ks' ls := ⟨I.1, ⟨I.2.1.1, I.2.1.2.1, h1, h2⟩, I.2.2⟩
theorem gLow.of {s : State} (h : gLow X s.heap) (hS : va_S (gA X s) s.heap H locs) : gLow X H :=
  ⟨Nat.le_trans h.1 hS.1, fun q hq => (hS.2.1 q (Nat.lt_of_lt_of_le hq h.1) (fun z => Nat.not_le.mpr hq z.1)).trans (h.2 q hq)⟩
-- the world's cells are no class's statics
theorem gNS {D : va_G} {cl : List vw_C} {k q : Nat} {x : va_E} (h : va_P D cl ws H) (hk : ws[k]? = some (q, x)) : ∃ cell : Cell, H[q]? = some cell ∧ cell.vm.isStatics = false := by
  have h1 := h k _ hk
  cases x with
  | inl a =>
    obtain ⟨cA, n, f | f | f | f | f⟩ := a <;> exact ⟨_, h1, rfl⟩
  | inr o =>
    obtain ⟨r, -, cell, q1, q2, q3, -⟩ := h1
    exact ⟨cell, q1, by rw [q3]; rfl⟩
-- a cell that lay at a method's start has kept its kind
theorem gKind {s T : State} {L : List Loc} {k n : Nat} (h : s.sameButNew (T.setVm s.vm) L k n) {q : Nat} {c0 c1 : Cell} (h0 : s.heap[q]? = some c0) (h1 : T.heap[q]? = some c1) : c1.vm.isStatics = c0.vm.isStatics := by
  obtain ⟨c2, e1, e2, -⟩ := h.2.2.2.2.2 q c0 h0
  cases (show T.heap[q]? = some c2 from e1).symm.trans h1
  rw [e2]
end GI
/-! locals: a list by rising numbers -/
def lset (i : Nat) (v : Value) : List (Nat × Value) → List (Nat × Value)
  | [] => [(i, v)]
  | q :: r => match Nat.blt q.1 i with
    | true => match (q.1 + 1 == i) && (q.2.category == 2) with
      | true => lset i v r
      | false => q :: lset i v r
    | false => match q.1 == i || (q.1 == i + 1 && v.category == 2) with
      | true => lset i v r
      | false => (i, v) :: q :: r.filter (fun z => !(z.1 == i) && (!(z.1 == i + 1 && v.category == 2) && !(z.1 + 1 == i && z.2.category == 2)))
theorem lset_in {i : Nat} {v : Value} {q : Nat × Value} : ∀ {lv : List (Nat × Value)}, q ∈ lset i v lv → q = (i, v) ∨ (q ∈ lv ∧ q.1 ≠ i ∧ ¬ (q.1 = i + 1 ∧ v.category = 2) ∧ ¬ (q.1 + 1 = i ∧ q.2.category = 2))
  | [], h => by
    simp [lset] at h
    exact Or.inl h
  | z :: r, h => by
    unfold lset at h
    split at h
    · rename_i hb
      have hb' : z.1 < i := by simpa [Nat.blt_eq] using hb
      split at h
      · rcases lset_in h with h | ⟨h1, h2⟩
        · exact Or.inl h
        · exact Or.inr ⟨List.mem_cons_of_mem _ h1, h2⟩
      · rename_i hc
        rcases List.mem_cons.mp h with h | h
        · subst h
          refine Or.inr ⟨List.mem_cons_self, by omega, by omega, fun q => ?_⟩
          simp [q.1, q.2] at hc
        · rcases lset_in h with h | ⟨h1, h2⟩
          · exact Or.inl h
          · exact Or.inr ⟨List.mem_cons_of_mem _ h1, h2⟩
    · rename_i hb
      have hb' : ¬ z.1 < i := fun hz => by rw [(Nat.blt_eq).mpr hz] at hb; cases hb
      split at h
      · rcases lset_in h with h | ⟨h1, h2⟩
        · exact Or.inl h
        · exact Or.inr ⟨List.mem_cons_of_mem _ h1, h2⟩
      · rename_i hc
        rcases List.mem_cons.mp h with h | h
        · exact Or.inl h
        · rcases List.mem_cons.mp h with h | h
          · subst h
            refine Or.inr ⟨List.mem_cons_self, fun q => ?_, fun q => ?_, by omega⟩
            · simp [q] at hc
            · simp [q.1, q.2] at hc
          · obtain ⟨h1, h2⟩ := List.mem_filter.mp h
            refine Or.inr ⟨List.mem_cons_of_mem _ h1, fun q => ?_, fun q => ?_, fun q => ?_⟩
            · simp [q] at h2
            · simp [q.1, q.2] at h2
            · have := q.1
              simp [q.2] at h2
              omega
theorem lget_in {i : Nat} {v : Value} : ∀ {lv : List (Nat × Value)}, lv.lookup i = some v → (i, v) ∈ lv
  | [], h => by simp at h
  | (j, w) :: r, h => by
    rw [List.lookup_cons] at h
    split at h
    · rename_i hb
      have : i = j := by simpa using hb
      cases h
      subst this
      exact List.mem_cons_self
    · exact List.mem_cons_of_mem _ (lget_in h)
theorem lget {ls : Array Slot} {n : Nat} {lv : List (Nat × Value)} {i : Nat} {v : Value} (h : lv_has ls n lv) (hv : lv.lookup i = some v) : ls[i]? = some (.val v) := h.2.2 (i, v) (lget_in hv)
theorem lput1 {ls : Array Slot} {n : Nat} {lv : List (Nat × Value)} {i : Nat} {v : Value} (hc : v.category = 1) (h : lv_has ls n ((i, v) :: lv.filter (fun q => !(q.1 == i) && !(q.1 + 1 == i && q.2.category == 2)))) : lv_has ls n (lset i v lv) := by
  refine ⟨h.1, h.2.1, fun q hq => h.2.2 q ?_⟩
  rcases lset_in hq with h | ⟨h1, h2, -, h3⟩
  · exact h ▸ List.mem_cons_self
  · refine List.mem_cons_of_mem _ (List.mem_filter.mpr ⟨h1, ?_⟩)
    simp only [Bool.and_eq_true, Bool.not_eq_true', beq_eq_false_iff_ne, ne_eq, Bool.and_eq_false_iff]
    refine ⟨h2, ?_⟩
    by_cases hz : q.1 + 1 = i
    · exact Or.inr fun z => h3 ⟨hz, z⟩
    · exact Or.inl hz
theorem lput2 {ls : Array Slot} {n : Nat} {lv : List (Nat × Value)} {i : Nat} {v : Value} (hc : v.category = 2) (h : lv_has ls n ((i, v) :: lv.filter (fun q => !(q.1 == i) && (!(q.1 == i + 1) && !(q.1 + 1 == i && q.2.category == 2))))) : lv_has ls n (lset i v lv) := by
  refine ⟨h.1, h.2.1, fun q hq => h.2.2 q ?_⟩
  rcases lset_in hq with h | ⟨h1, h2, h4, h3⟩
  · exact h ▸ List.mem_cons_self
  · refine List.mem_cons_of_mem _ (List.mem_filter.mpr ⟨h1, ?_⟩)
    simp only [Bool.and_eq_true, Bool.not_eq_true', beq_eq_false_iff_ne, ne_eq, Bool.and_eq_false_iff]
    refine ⟨h2, fun z => h4 ⟨z, hc⟩, ?_⟩
    by_cases hz : q.1 + 1 = i
    · exact Or.inr fun z => h3 ⟨hz, z⟩
    · exact Or.inl hz
def lsel (lv : List (Nat × Value)) (is : List Nat) : List (Nat × Value) := is.filterMap (fun i => (lv.lookup i).map (fun v => (i, v)))
theorem lsel_has {ls : Array Slot} {n : Nat} {lv lv' : List (Nat × Value)} (h : lv_has ls n lv) (is : List Nat) (hs : lsel lv is = lv') : lv_has ls n lv' := by
  refine ⟨h.1, h.2.1, fun q hq => ?_⟩
  subst hs
  obtain ⟨i, -, hi⟩ := List.mem_filterMap.mp hq
  cases hv : lv.lookup i with
  | none => rw [hv] at hi; cases hi
  | some v =>
    rw [hv] at hi
    cases hi
    exact lget h hv
