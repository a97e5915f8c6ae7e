/-! Ends of a kind; calls that come back; statics, the script; Math -/
def pV {σ : Type} (P : σ → Prop) : gO → σ → Prop := fun r w => r = .inl none ∧ P w
def pI {σ : Type} (P : Int32 → σ → Prop) : gO → σ → Prop := fun r w => ∃ x, r = .inl (some (.int x)) ∧ P x w
def pJ {σ : Type} (P : Int64 → σ → Prop) : gO → σ → Prop := fun r w => ∃ x, r = .inl (some (.long x)) ∧ P x w
-- an int, or an exception of the kind k
def pIT {σ : Type} (P : Int32 → σ → Prop) (T : Nat → σ → Prop) : gO → σ → Prop := fun r w => (∃ x, r = .inl (some (.int x)) ∧ P x w) ∨ ∃ k, r = .inr k ∧ T k w
def pVT {σ : Type} (P : σ → Prop) (T : Nat → σ → Prop) : gO → σ → Prop := fun r w => (r = .inl none ∧ P w) ∨ ∃ k, r = .inr k ∧ T k w
def pJT {σ : Type} (P : Int64 → σ → Prop) (T : Nat → σ → Prop) : gO → σ → Prop := fun r w => (∃ x, r = .inl (some (.long x)) ∧ P x w) ∨ ∃ k, r = .inr k ∧ T k w
theorem gq {a b : Nat} (h : Nat.ble a b = true) : a ≤ b := Nat.le_of_ble_eq_true h
section GM
variable {X : gX} {M M' : gM} {F L C S F' L' C' S' : Nat} {pc pc' : Nat} {lv : List (Nat × Value)} {st stk : List Value} {ws : va_W} {Post : gO → va_W → Prop}
variable {idx n q ci b : Nat} {fs : List Value} {K : u_T} {N : Nat} {PV : va_W → Prop} {PI : Int32 → va_W → Prop} {PJ : Int64 → va_W → Prop} {PT : Nat → va_W → Prop}
theorem g_vV (As : List Value) (hc : gCV M.y.cls idx M' n) (hd : gD M pc (.invokevirtual idx) 3 pc') (hci : vwCl[ci]? = some (M'.y.cls, K, N)) (he : ws[q]? = some (b, .inr (ci, fs))) (con : G X M' F' L' C' S' 0 (lv_args 0 (.ref b :: As)) [] ws (pV PV)) (kk : ∀ w, PV w → G X M F L (C - C') (S - S') pc' lv st w Post)
    (hs : stk = As.reverse ++ .ref b :: st) (hn : As.length = n) (hent : (lg_sl (.ref b :: As)).length ≤ M'.maxL) (hst : (st.map fun v => v.category).sum ≤ 8) (hF : F' + 1 ≤ F) (hL : 8 + (M'.maxL + 11) + L' ≤ L) (hC : C' ≤ C) (hS : S' ≤ S) : G X M F L C S pc lv stk ws Post := by
  subst hs
  refine g_callV hc hd hci he hn con hent hst hF hL hC hS (fun v w h => ?_) (fun k w h => ?_)
  · obtain ⟨h1, h2⟩ := h
    cases h1
    exact kk w h2
  · cases h.1
theorem g_vI (As : List Value) (hc : gCV M.y.cls idx M' n) (hd : gD M pc (.invokevirtual idx) 3 pc') (hci : vwCl[ci]? = some (M'.y.cls, K, N)) (he : ws[q]? = some (b, .inr (ci, fs))) (con : G X M' F' L' C' S' 0 (lv_args 0 (.ref b :: As)) [] ws (pI PI)) (kk : ∀ x w, PI x w → G X M F L (C - C') (S - S') pc' lv (.int x :: st) w Post)
    (hs : stk = As.reverse ++ .ref b :: st) (hn : As.length = n) (hent : (lg_sl (.ref b :: As)).length ≤ M'.maxL) (hst : (st.map fun v => v.category).sum ≤ 8) (hF : F' + 1 ≤ F) (hL : 8 + (M'.maxL + 11) + L' ≤ L) (hC : C' ≤ C) (hS : S' ≤ S) : G X M F L C S pc lv stk ws Post := by
  subst hs
  refine g_callV hc hd hci he hn con hent hst hF hL hC hS (fun v w h => ?_) (fun k w h => ?_)
  · obtain ⟨x, h1, h2⟩ := h
    cases h1
    exact kk x w h2
  · obtain ⟨x, h1, h2⟩ := h
    cases h1
theorem g_vJ (As : List Value) (hc : gCV M.y.cls idx M' n) (hd : gD M pc (.invokevirtual idx) 3 pc') (hci : vwCl[ci]? = some (M'.y.cls, K, N)) (he : ws[q]? = some (b, .inr (ci, fs))) (con : G X M' F' L' C' S' 0 (lv_args 0 (.ref b :: As)) [] ws (pJ PJ)) (kk : ∀ x w, PJ x w → G X M F L (C - C') (S - S') pc' lv (.long x :: st) w Post)
    (hs : stk = As.reverse ++ .ref b :: st) (hn : As.length = n) (hent : (lg_sl (.ref b :: As)).length ≤ M'.maxL) (hst : (st.map fun v => v.category).sum ≤ 8) (hF : F' + 1 ≤ F) (hL : 8 + (M'.maxL + 11) + L' ≤ L) (hC : C' ≤ C) (hS : S' ≤ S) : G X M F L C S pc lv stk ws Post := by
  subst hs
  refine g_callV hc hd hci he hn con hent hst hF hL hC hS (fun v w h => ?_) (fun k w h => ?_)
  · obtain ⟨x, h1, h2⟩ := h
    cases h1
    exact kk x w h2
  · obtain ⟨x, h1, h2⟩ := h
    cases h1
-- a call that may throw
theorem g_vVT (As : List Value) (hc : gCV M.y.cls idx M' n) (hd : gD M pc (.invokevirtual idx) 3 pc') (hci : vwCl[ci]? = some (M'.y.cls, K, N)) (he : ws[q]? = some (b, .inr (ci, fs))) (con : G X M' F' L' C' S' 0 (lv_args 0 (.ref b :: As)) [] ws (pVT PV PT)) (kk : ∀ w, PV w → G X M F L (C - C') (S - S') pc' lv st w Post) (kt : ∀ k w, PT k w → Post (.inr k) w) (hh : M.hh = some [])
    (hs : stk = As.reverse ++ .ref b :: st) (hn : As.length = n) (hent : (lg_sl (.ref b :: As)).length ≤ M'.maxL) (hst : (st.map fun v => v.category).sum ≤ 8) (hF : F' + 1 ≤ F) (hL : 8 + (M'.maxL + 11) + L' ≤ L) (hC : C' ≤ C) (hS : S' ≤ S) : G X M F L C S pc lv stk ws Post := by
  subst hs
  refine g_callV hc hd hci he hn con hent hst hF hL hC hS (fun v w h => ?_) (fun k w h => ?_)
  · rcases h with ⟨h1, h2⟩ | ⟨k, h1, h2⟩
    · cases h1
      exact kk w h2
    · cases h1
  · rcases h with ⟨h1, h2⟩ | ⟨k', h1, h2⟩
    · cases h1
    · cases h1
      exact ⟨hh, kt k w h2⟩
theorem g_sI (As : List Value) (hc : gCS M.y.cls idx M' n) (hd : gD M pc (.invokestatic idx) 3 pc') (con : G X M' F' L' C' S' 0 (lv_args 0 As) [] ws (pI PI)) (kk : ∀ x w, PI x w → G X M F L (C - C') (S - S') pc' lv (.int x :: st) w Post)
    (hs : stk = As.reverse ++ st) (hn : As.length = n) (hent : (lg_sl As).length ≤ M'.maxL) (hst : (st.map fun v => v.category).sum ≤ 8) (hF : F' + 1 ≤ F) (hL : 8 + (M'.maxL + 11) + L' ≤ L) (hC : C' ≤ C) (hS : S' ≤ S) : G X M F L C S pc lv stk ws Post := by
  subst hs
  refine g_callS hc hd hn con hent hst hF hL hC hS (fun v w h => ?_) (fun k w h => ?_)
  · obtain ⟨x, h1, h2⟩ := h
    cases h1
    exact kk x w h2
  · obtain ⟨x, h1, h2⟩ := h
    cases h1
theorem g_sVT (As : List Value) (hc : gCS M.y.cls idx M' n) (hd : gD M pc (.invokestatic idx) 3 pc') (con : G X M' F' L' C' S' 0 (lv_args 0 As) [] ws (pVT PV PT)) (kk : ∀ w, PV w → G X M F L (C - C') (S - S') pc' lv st w Post) (kt : ∀ k w, PT k w → Post (.inr k) w) (hh : M.hh = some [])
    (hs : stk = As.reverse ++ st) (hn : As.length = n) (hent : (lg_sl As).length ≤ M'.maxL) (hst : (st.map fun v => v.category).sum ≤ 8) (hF : F' + 1 ≤ F) (hL : 8 + (M'.maxL + 11) + L' ≤ L) (hC : C' ≤ C) (hS : S' ≤ S) : G X M F L C S pc lv stk ws Post := by
  subst hs
  refine g_callS hc hd hn con hent hst hF hL hC hS (fun v w h => ?_) (fun k w h => ?_)
  · rcases h with ⟨h1, h2⟩ | ⟨k, h1, h2⟩
    · cases h1
      exact kk w h2
    · cases h1
  · rcases h with ⟨h1, h2⟩ | ⟨k', h1, h2⟩
    · cases h1
    · cases h1
      exact ⟨hh, kt k w h2⟩
theorem g_iV (As : List Value) (hc : gCI M.y.cls idx M' n) (hd : gD M pc (.invokespecial idx) 3 pc') (con : G X M' F' L' C' S' 0 (lv_args 0 (.ref b :: As)) [] ws (pV PV)) (kk : ∀ w, PV w → G X M F L (C - C') (S - S') pc' lv st w Post)
    (hs : stk = As.reverse ++ .ref b :: st) (hn : As.length = n) (hent : (lg_sl (.ref b :: As)).length ≤ M'.maxL) (hst : (st.map fun v => v.category).sum ≤ 8) (hF : F' + 1 ≤ F) (hL : 8 + (M'.maxL + 11) + L' ≤ L) (hC : C' ≤ C) (hS : S' ≤ S) : G X M F L C S pc lv stk ws Post := by
  subst hs
  refine g_callI hc hd hn con hent hst hF hL hC hS (fun v w h => ?_) (fun k w h => ?_)
  · obtain ⟨h1, h2⟩ := h
    cases h1
    exact kk w h2
  · cases h.1
theorem g_mmax {x y : Int32} (hl : Cond.methodLink M.y.cls idx Lib.Math.max.name ∈ gTW) (hd : gD M pc (.invokestatic idx) 3 pc') (hF : 1 ≤ F) (hst : (st.map fun v => v.category).sum + 13 ≤ L) (kk : G X M F L C S pc' lv (.int (if x < y then y else x) :: st) ws Post) : G X M F L C S pc lv (.int y :: .int x :: st) ws Post := by
  obtain ⟨hd, rfl⟩ := hd
  intro p e R s m args below meth c H locs kc ks ls I
  exact va_mmax I.x I.b (I.ml.trans I.hl.1.symm) I.own (I.w args hl) (I.w args w_139) (I.w args w_8) (I.w args w_140) (Nat.le_trans hF I.2.1.1) (Nat.le_trans hst I.2.1.2.1) (by have := I.2.1.2.2.1; omega) (by have := I.2.1.2.2.2; omega) hd (kk p e R s m args below meth c H locs kc ks ls I)
theorem g_mmin {x y : Int32} (hl : Cond.methodLink M.y.cls idx Lib.Math.min.name ∈ gTW) (hd : gD M pc (.invokestatic idx) 3 pc') (hF : 1 ≤ F) (hst : (st.map fun v => v.category).sum + 13 ≤ L) (kk : G X M F L C S pc' lv (.int (if y < x then y else x) :: st) ws Post) : G X M F L C S pc lv (.int y :: .int x :: st) ws Post := by
  obtain ⟨hd, rfl⟩ := hd
  intro p e R s m args below meth c H locs kc ks ls I
  exact va_mmin I.x I.b (I.ml.trans I.hl.1.symm) I.own (I.w args hl) (I.w args w_136) (I.w args w_8) (I.w args w_137) (Nat.le_trans hF I.2.1.1) (Nat.le_trans hst I.2.1.2.1) (by have := I.2.1.2.2.1; omega) (by have := I.2.1.2.2.2; omega) hd (kk p e R s m args below meth c H locs kc ks ls I)
theorem gSt.up {p : Program} {R : Room} {s : State} {m : MethodId} {meth : Method} {c : Code} {H : Heap} {locs : List Loc} {kc ks : Nat} {ls : Array Slot} (I : gI X M F L C S lv ws p R s m meth c H locs kc ks ls) : ∀ a : Nat, a < X.H0.size → ¬ gHi X a → s.heap[a]? = X.H0[a]? := fun a h _ => I.low.2 a h
theorem g_gets {nm : String} {t : Nat} (hl : gLk M.y.cls idx "SelfArranger" nm "[I") (hz : ∀ U, gSt X U → va_Z "SelfArranger" nm "[I" (.ref t) (gHi X) U X.H0) (hd : gD M pc (.getstatic idx) 3 pc') (kk : G X M F L C S pc' lv (.ref t :: st) ws Post) : G X M F L C S pc lv st ws Post := by
  obtain ⟨hd, rfl⟩ := hd
  intro p e R s m args below meth c H locs kc ks ls I
  have h1 := ((hz s I.T.2.2).kept (gSt.up I)).narrow (B := gA X s) (fun q h => h.1)
  rcases hl with hl | ⟨h, hl⟩
  · exact va_gets I.x I.b h1 I.sS I.own (I.w args hl) (fun _ h => h) hd (kk p e R s m args below meth c H locs kc ks ls I)
  · exact va_getsN I.x I.b h1 I.sS I.own (I.w args hl) (fun _ h => h) hd (kk p e R s m args below meth c H locs kc ks ls I)
theorem g_get1 (hl : gLk M.y.cls idx "SelfArranger" "FIRST_COLUMN" "[I") (hd : gD M pc (.getstatic idx) 3 pc') (kk : G X M F L C S pc' lv (.ref X.t1 :: st) ws Post) : G X M F L C S pc lv st ws Post := g_gets hl (fun _ h => h.1) hd kk
theorem g_get2 (hl : gLk M.y.cls idx "SelfArranger" "SECOND_COLUMN" "[I") (hd : gD M pc (.getstatic idx) 3 pc') (kk : G X M F L C S pc' lv (.ref X.t2 :: st) ws Post) : G X M F L C S pc lv st ws Post := g_gets hl (fun _ h => h.2.1) hd kk
theorem g_tald {f : Nat → Value} {t j : Nat} {i : Int32} {v : Int32} (hz : ∀ U, gSt X U → va_T .int t 9 f (gHi X) U X.H0) (hd : gD M pc .iaload 1 pc') (hi : i = nI j) (hj : j < 9) (hv : f j = .int v) (kk : G X M F L C S pc' lv (.int v :: st) ws Post) : G X M F L C S pc lv (.int i :: .ref t :: st) ws Post := by
  obtain ⟨hd, rfl⟩ := hd
  subst hi
  have hcl : (nI j).toNatClampNeg = j := nI_clamp (by omega)
  intro p e R s m args below meth c H locs kc ks ls I
  have h1 := ((hz s I.T.2.2).kept (gSt.up I)).narrow (B := gA X s) (fun q h => h.1)
  exact va_ti I.x I.b h1 I.sS (vp_in_nI hj (by decide)) (by rw [hcl]; exact hv) hd (kk p e R s m args below meth c H locs kc ks ls I)
theorem g_ald1 {j : Nat} {i : Int32} (hd : gD M pc .iaload 1 pc') (hi : i = nI j) (hj : j < 9) (kk : G X M F L C S pc' lv (.int (([0, 1, 2, 0, 0, 1, 1, 2, 2] : List Int32).getD j 0) :: st) ws Post) : G X M F L C S pc lv (.int i :: .ref X.t1 :: st) ws Post := g_tald (f := gF1) (fun _ h => h.2.2.1) hd hi hj rfl kk
theorem g_ald2 {j : Nat} {i : Int32} (hd : gD M pc .iaload 1 pc') (hi : i = nI j) (hj : j < 9) (kk : G X M F L C S pc' lv (.int (([-1, -1, -1, 1, 2, 0, 2, 0, 1] : List Int32).getD j 0) :: st) ws Post) : G X M F L C S pc lv (.int i :: .ref X.t2 :: st) ws Post := g_tald (f := gF2) (fun _ h => h.2.2.2.1) hd hi hj rfl kk
theorem gX.sbA {p : Program} {R : Room} {s : State} {m : MethodId} {meth : Method} {c : Code} {H : Heap} {locs : List Loc} {kc ks : Nat} {ls : Array Slot} (I : gI X M F L C S lv ws p R s m meth c H locs kc ks ls) : va_X X.sb X.sl X.sx s s.heap ∧ X.sb < s.heap.size ∧ ¬ gA X s X.sb := by
  have h := I.T.2.2.2.2.2.2
  exact ⟨h.1.kept (I.low.2 _ h.2.1), Nat.lt_of_lt_of_le h.2.1 I.low.1, fun z => Nat.not_le.mpr h.2.1 z.1⟩
theorem g_sald {j : Nat} {i : Int32} (hd : gD M pc .iaload 1 pc') (hi : i = nI j) (hj : j < X.sl) (hn : X.sl < 2 ^ 31) (kk : G X M F L C S pc' lv (.int (X.sx j) :: st) ws Post) : G X M F L C S pc lv (.int i :: .ref X.sb :: st) ws Post := by
  obtain ⟨hd, rfl⟩ := hd
  subst hi
  have hcl : (nI j).toNatClampNeg = j := nI_clamp (Nat.lt_trans hj hn)
  intro p e R s m args below meth c H locs kc ks ls I
  obtain ⟨h1, h2, h3⟩ := gX.sbA I
  exact va_sld I.x I.b h1 h2 h3 I.sS (vp_in_nI hj hn) hd (by rw [hcl]; exact kk p e R s m args below meth c H locs kc ks ls I)
theorem g_slen (hd : gD M pc .arraylength 1 pc') (kk : G X M F L C S pc' lv (.int (nI X.sl) :: st) ws Post) : G X M F L C S pc lv (.ref X.sb :: st) ws Post := by
  obtain ⟨hd, rfl⟩ := hd
  intro p e R s m args below meth c H locs kc ks ls I
  obtain ⟨h1, h2, h3⟩ := gX.sbA I
  exact va_slen I.x I.b h1 h2 h3 I.sS hd (kk p e R s m args below meth c H locs kc ks ls I)
end GM
