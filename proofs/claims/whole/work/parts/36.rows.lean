/-! SelfArranger: insert, delete, change, value, where, order, answer, last -/
def insT (t : QT) (x y z : Int32) : QT := (t.1 + 1, upd (upd (upd t.2.1 (3 * t.1) x) (3 * t.1 + 1) y) (3 * t.1 + 2) z, upd t.2.2 t.1 1)
def delT (t : QT) (j : Nat) : QT := (t.1, t.2.1, upd t.2.2 j 0)
def putT (t : QT) (j q : Nat) (x : Int32) : QT := (t.1, upd t.2.1 (3 * j + q) x, t.2.2)
def putC (k : QC) (q : Nat) (kd fr to : Int32) : QC := (upd k.1 q kd, upd k.2.1 q fr, upd k.2.2 q (if kd = 1 then fr else to))
def kdI (y : Int32) : Prop := y = 0 ∨ y = 1 ∨ y = 2
theorem liv_ins {t : QT} {x y z : Int32} : liv (insT t x y z) = liv t + 1 := by
  unfold liv insT
  rw [live_add, List.length_append]; rfl
theorem liv_del {t : QT} {j : Nat} (hj : j < t.1) (h : ¬ t.2.2 j = 0) : liv t = liv (delT t j) + 1 := (live_del h hj).symm
theorem kd_of {y : Int32} (h0 : ¬ y < 0) (h1 : y ≤ 2) : kdI y := by
  obtain ⟨j, hj, rfl⟩ := nn_le (n := 2) h0 h1 (by decide)
  have : j = 0 ∨ j = 1 ∨ j = 2 := by omega
  rcases this with rfl | rfl | rfl
  · exact Or.inl rfl
  · exact Or.inr (Or.inl rfl)
  · exact Or.inr (Or.inr rfl)
theorem sw_out {x : Int32} (n : Nat) (hn : n < 2 ^ 31) (h : ∀ j, j < n → ¬ x = nI j) : x.toInt < 0 ∨ (n : Int) - 1 < x.toInt := by
  by_cases h0 : x < 0
  · left
    exact Int32.lt_iff_toInt_lt.mp h0
  · obtain ⟨j, hj, rfl⟩ := nn_of h0
    right
    rw [nI_toInt hj]
    have hj2 : ¬ j < n := fun z => h j z rfl
    omega
theorem sw4 {x : Int32} (n0 : ¬ x = 0) (n1 : ¬ x = 1) (n2 : ¬ x = 2) (n3 : ¬ x = 3) : ∀ j, j < 4 → ¬ x = nI j := fun j hj => by
  have : j = 0 ∨ j = 1 ∨ j = 2 ∨ j = 3 := by omega
  rcases this with rfl | rfl | rfl | rfl
  · exact n0
  · exact n1
  · exact n2
  · exact n3
theorem sw3 {x : Int32} (n0 : ¬ x = 0) (n1 : ¬ x = 1) (n2 : ¬ x = 2) : ∀ j, j < 3 → ¬ x = nI j := fun j hj => by
  have : j = 0 ∨ j = 1 ∨ j = 2 := by omega
  rcases this with rfl | rfl | rfl
  · exact n0
  · exact n1
  · exact n2
theorem w_room {X : gX} {a : Nat → Nat} {M : gM} {F L C S C' S' pc : Nat} {lv : List (Nat × Value)} {st : List Value} {c : Nat → va_E} {Post : gO → (Nat → va_E) → Prop} (h1 : C' ≤ C) (h2 : S' ≤ S) (k : GW X a M F L C' S' pc lv st c Post) : GW X a M F L C S pc lv st c Post := by
  intro p e R s m args below meth cd H locs kc ks ls I
  exact k p e R s m args below meth cd H locs kc ks ls (I.room (by have := I.2.1.2.2.1; omega) (by have := I.2.1.2.2.2; omega))
section PB
variable {X : gX} {a : Nat → Nat} {c : Nat → va_E} {t : QT} {k : QC} {o : QO} {l : QL} {p : QP} {d : QD} {b : QB} {r : List Nat} {n : Nat}
theorem a_insert (hX : X.l.stackTraces = false) (h : cls X a c t k o l p d b r) (ok : okQ n t k o l p d b r) {x y z : Int32} : GW X a m_A_insert 7 110 4 24 0 (lv_args 0 [.ref (a 0), .int x, .int y, .int z]) [] c (pIT (fun v w => (isV x ∧ isV y ∧ isV z) ∧ t.1 < 64 ∧ v = nI t.1 ∧ cls X a w (insT t x y z) k o l p (ntD d) (ntB b t.1) r ∧ sameA c w)
    (fun e w => ((e = 0 ∧ ¬ (isV x ∧ isV y ∧ isV z)) ∨ (e = 1 ∧ (isV x ∧ isV y ∧ isV z) ∧ t.1 = 64)) ∧ c = w)) := by
  have hi := ok.1
  refine w_iload_n d_A_insert_0 rfl ?_
  refine w_sVT [_] c_A_91 d_A_insert_1 (a_reqV hX) (fun w hw => ?_) (fun e w hw => Or.inr ⟨e, rfl, Or.inl ⟨hw.1, fun z => hw.2.1 z.1⟩, hw.2.2⟩) rfl rfl rfl (gq rfl) (gq rfl) (gq rfl) (gq rfl) (gq rfl) (gq rfl)
  obtain ⟨v1, rfl⟩ := hw
  refine w_iload_n d_A_insert_4 rfl ?_
  refine w_sVT [_] c_A_91 d_A_insert_5 (a_reqV hX) (fun w hw => ?_) (fun e w hw => Or.inr ⟨e, rfl, Or.inl ⟨hw.1, fun z => hw.2.1 z.2.1⟩, hw.2.2⟩) rfl rfl rfl (gq rfl) (gq rfl) (gq rfl) (gq rfl) (gq rfl) (gq rfl)
  obtain ⟨v2, rfl⟩ := hw
  refine w_iload_n d_A_insert_8 rfl ?_
  refine w_sVT [_] c_A_91 d_A_insert_9 (a_reqV hX) (fun w hw => ?_) (fun e w hw => Or.inr ⟨e, rfl, Or.inl ⟨hw.1, fun z => hw.2.1 z.2.2⟩, hw.2.2⟩) rfl rfl rfl (gq rfl) (gq rfl) (gq rfl) (gq rfl) (gq rfl) (gq rfl)
  obtain ⟨v3, rfl⟩ := hw
  refine w_aload_n d_A_insert_12 rfl ?_
  refine w_getf g_A_12 d_A_insert_13 h.A rfl (by decide) ?_
  refine w_vI [] c_A_94 d_A_insert_16 rfl h.T (by decide) (t_isFull h.T hi) (fun x w hw => ?_) rfl rfl (gq rfl) (gq rfl) (gq rfl) (gq rfl) (gq rfl) (gq rfl)
  obtain ⟨rfl, rfl⟩ := hw
  refine w_if_eq 32 d_A_insert_19 (by decide) (fun h1 => ?_) (fun h1 => ?_)
  · -- taken
    have h1' : ¬ t.1 = 64 := by simpa using bI_t.mp h1
    refine w_aload_n d_A_insert_32 rfl ?_
    refine w_getf g_A_12 d_A_insert_33 h.A rfl (by decide) ?_
    refine w_iload_n d_A_insert_36 rfl ?_
    refine w_iload_n d_A_insert_37 rfl ?_
    refine w_iload_n d_A_insert_38 rfl ?_
    refine w_vI [_, _, _] c_A_105 d_A_insert_39 rfl h.T (by decide) (t_add h.T h.V h.H (by omega)) (fun x w hw => ?_) rfl rfl (gq rfl) (gq rfl) (gq rfl) (gq rfl) (gq rfl) (gq rfl)
    obtain ⟨rfl, w1, w2, w3, hs⟩ := hw
    have hA1 : w 0 = oA a o.1 o.2.1 o.2.2 l.1 l.2 := (hs 0 (by decide)).trans h.A
    refine w_istore d_A_insert_42 (by decide) ?_
    refine w_aload_n d_A_insert_44 rfl ?_
    refine w_iload d_A_insert_45 rfl ?_
    refine w_vV [_] c_A_109 d_A_insert_47 rfl hA1 (by decide) (a_note (d := d) (b := b) (row := t.1) (o := o) (l := l) hA1 (h.D.keep (fun q q1 q2 => hs q (by simp; omega))) ((hs 75 (by decide)).trans h.B) (by omega) (by have := ok.2.2.2.2.2.2.1.2.1; omega) ok.2.2.2.2.2.2.1.1) (fun w hw => ?_) rfl rfl (gq rfl) (gq rfl) (gq rfl) (gq rfl) (gq rfl) (gq rfl)
    obtain ⟨n1, n2, hs2⟩ := hw
    rename_i w0
    have hs3 : same c w [1, 2, 3, 16, 75] := fun q hq => (hs2 q (fun z => hq (by simp at z ⊢; omega))).trans (hs q (fun z => hq (by simp at z ⊢; omega)))
    have e1 : w 1 = oT a (insT t x y z).1 (liv (insT t x y z)) := by rw [hs2 1 (by decide), w1, liv_ins]; rfl
    refine w_iload d_A_insert_50 rfl ?_
    exact w_iret d_A_insert_52 rfl (Or.inl ⟨_, rfl, ⟨v1, v2, v3⟩, by omega, rfl, h.part hs3 (Or.inl ⟨by decide, rfl, rfl⟩) (Or.inr ⟨e1, (hs2 2 (by decide)).trans w2, (hs2 3 (by decide)).trans w3⟩) (Or.inl ⟨by decide, by decide, by decide, by decide, rfl⟩) (Or.inl ⟨by decide, by decide, by decide⟩) (Or.inl ⟨by decide, by decide⟩) (Or.inl ⟨by decide, by decide, by decide, rfl⟩) (Or.inr n1) (by decide) (Or.inr ⟨n2, (hs2 76 (by decide)).trans ((hs 76 (by decide)).trans h.s)⟩) (Or.inl ⟨by decide, by decide, rfl⟩), sameA_of hs3 (by simp)⟩)
  · -- not taken
    have h1' : t.1 = 64 := by simpa using bI_n.mp h1
    exact w_throw hX (k := 1) (tx := "there were 64 rows") (by decide) rfl rfl w_619 (by decide) d_A_insert_22 d_A_insert_25 (Or.inl d_A_insert_26) d_A_insert_28 d_A_insert_31 (gq rfl) (gq rfl) (gq rfl) (gq rfl) (gq rfl) (Or.inr ⟨1, rfl, Or.inr ⟨rfl, ⟨v1, v2, v3⟩, h1'⟩, rfl⟩)
theorem a_delete (hX : X.l.stackTraces = false) (h : cls X a c t k o l p d b r) (ok : okQ n t k o l p d b r) {x : Int32} : GW X a m_A_delete 7 111 1 6 0 (lv_args 0 [.ref (a 0), .int x]) [] c (pVT (fun w => ∃ j, j < t.1 ∧ x = nI j ∧ ¬ t.2.2 j = 0 ∧ cls X a w (delT t j) k o l p (ntD d) (ntB b j) r ∧ sameA c w)
    (fun e w => e = 2 ∧ ¬ rwI t x ∧ c = w)) := by
  have hi := ok.1
  refine w_aload_n d_A_delete_0 rfl ?_
  refine w_iload_n d_A_delete_1 rfl ?_
  refine w_vVT [_] c_A_112 d_A_delete_2 rfl h.A (by decide) (a_reqR hX h hi) (fun w hw => ?_) (fun e w hw => Or.inr ⟨e, rfl, hw⟩) rfl rfl rfl (gq rfl) (gq rfl) (gq rfl) (gq rfl) (gq rfl) (gq rfl)
  obtain ⟨⟨j, j1, rfl, j2⟩, rfl⟩ := hw
  have hT0 : c 1 = oT a t.1 (liv (delT t j) + 1) := by rw [← liv_del j1 j2]; exact h.T
  refine w_aload_n d_A_delete_5 rfl ?_
  refine w_getf g_A_12 d_A_delete_6 h.A rfl (by decide) ?_
  refine w_iload_n d_A_delete_9 rfl ?_
  refine w_vV [_] c_A_115 d_A_delete_10 rfl h.T (by decide) (t_remove (r := j) hT0 h.H (by omega)) (fun w hw => ?_) rfl rfl (gq rfl) (gq rfl) (gq rfl) (gq rfl) (gq rfl) (gq rfl)
  obtain ⟨w1, w3, hs⟩ := hw
  have hA1 : w 0 = oA a o.1 o.2.1 o.2.2 l.1 l.2 := (hs 0 (by decide)).trans h.A
  refine w_aload_n d_A_delete_13 rfl ?_
  refine w_iload_n d_A_delete_14 rfl ?_
  refine w_vV [_] c_A_109 d_A_delete_15 rfl hA1 (by decide) (a_note (d := d) (b := b) (row := j) (o := o) (l := l) hA1 (h.D.keep (fun q q1 q2 => hs q (by simp; omega))) ((hs 75 (by decide)).trans h.B) (by omega) (by have := ok.2.2.2.2.2.2.1.2.1; omega) ok.2.2.2.2.2.2.1.1) (fun w hw => ?_) rfl rfl (gq rfl) (gq rfl) (gq rfl) (gq rfl) (gq rfl) (gq rfl)
  obtain ⟨n1, n2, hs2⟩ := hw
  rename_i w0
  have hs3 : same c w [1, 3, 16, 75] := fun q hq => (hs2 q (fun z => hq (by simp at z ⊢; omega))).trans (hs q (fun z => hq (by simp at z ⊢; omega)))
  exact w_vret d_A_delete_18 rfl (Or.inl ⟨rfl, j, j1, rfl, j2, h.part hs3 (Or.inl ⟨by decide, rfl, rfl⟩) (Or.inr ⟨(hs2 1 (by decide)).trans w1, (hs2 2 (by decide)).trans ((hs 2 (by decide)).trans h.V), (hs2 3 (by decide)).trans w3⟩) (Or.inl ⟨by decide, by decide, by decide, by decide, rfl⟩) (Or.inl ⟨by decide, by decide, by decide⟩) (Or.inl ⟨by decide, by decide⟩) (Or.inl ⟨by decide, by decide, by decide, rfl⟩) (Or.inr n1) (by decide) (Or.inr ⟨n2, (hs2 76 (by decide)).trans ((hs 76 (by decide)).trans h.s)⟩) (Or.inl ⟨by decide, by decide, rfl⟩), sameA_of hs3 (by simp)⟩)
theorem a_change (hX : X.l.stackTraces = false) (h : cls X a c t k o l p d b r) (ok : okQ n t k o l p d b r) {x y z : Int32} : GW X a m_A_change 7 111 3 18 0 (lv_args 0 [.ref (a 0), .int x, .int y, .int z]) [] c (pVT (fun w => ∃ j q, (j < t.1 ∧ x = nI j ∧ ¬ t.2.2 j = 0) ∧ (q < 3 ∧ y = nI q) ∧ isV z ∧ cls X a w (putT t j q z) k o l p (ntD d) (ntB b j) r ∧ sameA c w)
    (fun e w => ((e = 2 ∧ ¬ (rwI t x ∧ clI y)) ∨ (e = 0 ∧ (rwI t x ∧ clI y) ∧ ¬ isV z)) ∧ c = w)) := by
  have hi := ok.1
  refine w_aload_n d_A_change_0 rfl ?_
  refine w_iload_n d_A_change_1 rfl ?_
  refine w_vVT [_] c_A_112 d_A_change_2 rfl h.A (by decide) (a_reqR hX h hi) (fun w hw => ?_) (fun e w hw => Or.inr ⟨e, rfl, Or.inl ⟨hw.1, fun z => hw.2.1 z.1⟩, hw.2.2⟩) rfl rfl rfl (gq rfl) (gq rfl) (gq rfl) (gq rfl) (gq rfl) (gq rfl)
  obtain ⟨⟨j, j1, rfl, j2⟩, rfl⟩ := hw
  refine w_iload_n d_A_change_5 rfl ?_
  refine w_sVT [_] c_A_118 d_A_change_6 (a_reqC hX) (fun w hw => ?_) (fun e w hw => Or.inr ⟨e, rfl, Or.inl ⟨hw.1, fun z => hw.2.1 z.2⟩, hw.2.2⟩) rfl rfl rfl (gq rfl) (gq rfl) (gq rfl) (gq rfl) (gq rfl) (gq rfl)
  obtain ⟨⟨q, q1, rfl⟩, rfl⟩ := hw
  refine w_iload_n d_A_change_9 rfl ?_
  refine w_sVT [_] c_A_91 d_A_change_10 (a_reqV hX) (fun w hw => ?_) (fun e w hw => Or.inr ⟨e, rfl, Or.inr ⟨hw.1, ⟨⟨j, j1, rfl, j2⟩, q, q1, rfl⟩, hw.2.1⟩, hw.2.2⟩) rfl rfl rfl (gq rfl) (gq rfl) (gq rfl) (gq rfl) (gq rfl) (gq rfl)
  obtain ⟨v1, rfl⟩ := hw
  refine w_aload_n d_A_change_13 rfl ?_
  refine w_getf g_A_12 d_A_change_14 h.A rfl (by decide) ?_
  refine w_iload_n d_A_change_17 rfl ?_
  refine w_iload_n d_A_change_18 rfl ?_
  refine w_iload_n d_A_change_19 rfl ?_
  refine w_vV [_, _, _] c_A_121 d_A_change_20 rfl h.T (by decide) (t_put (r := j) (k := q) h.T h.V (by omega) q1) (fun w hw => ?_) rfl rfl (gq rfl) (gq rfl) (gq rfl) (gq rfl) (gq rfl) (gq rfl)
  subst hw
  have hs : same c (va_up c 2 (aI X 192 (upd t.2.1 (3 * j + q) z))) [2] := same_up (by simp)
  have hA1 : va_up c 2 (aI X 192 (upd t.2.1 (3 * j + q) z)) 0 = oA a o.1 o.2.1 o.2.2 l.1 l.2 := va_n (by decide) h.A
  refine w_aload_n d_A_change_23 rfl ?_
  refine w_iload_n d_A_change_24 rfl ?_
  refine w_vV [_] c_A_109 d_A_change_25 rfl hA1 (by decide) (a_note (d := d) (b := b) (row := j) (o := o) (l := l) hA1 (h.D.keep (fun q q1 q2 => hs q (by simp; omega))) h.B (by omega) (by have := ok.2.2.2.2.2.2.1.2.1; omega) ok.2.2.2.2.2.2.1.1) (fun w hw => ?_) rfl rfl (gq rfl) (gq rfl) (gq rfl) (gq rfl) (gq rfl) (gq rfl)
  obtain ⟨n1, n2, hs2⟩ := hw
  have hs3 : same c w [2, 16, 75] := fun q hq => (hs2 q (fun z => hq (by simp at z ⊢; omega))).trans (hs q (fun z => hq (by simp at z ⊢; omega)))
  exact w_vret d_A_change_28 rfl (Or.inl ⟨rfl, j, q, ⟨j1, rfl, j2⟩, ⟨q1, rfl⟩, v1, h.part hs3 (Or.inl ⟨by decide, rfl, rfl⟩) (Or.inr ⟨(hs2 1 (by decide)).trans h.T, hs2 2 (by decide), (hs2 3 (by decide)).trans h.H⟩) (Or.inl ⟨by decide, by decide, by decide, by decide, rfl⟩) (Or.inl ⟨by decide, by decide, by decide⟩) (Or.inl ⟨by decide, by decide⟩) (Or.inl ⟨by decide, by decide, by decide, rfl⟩) (Or.inr n1) (by decide) (Or.inr ⟨n2, (hs2 76 (by decide)).trans h.s⟩) (Or.inl ⟨by decide, by decide, rfl⟩), sameA_of hs3 (by simp)⟩)
theorem a_value (hX : X.l.stackTraces = false) (h : cls X a c t k o l p d b r) (ok : okQ n t k o l p d b r) {x y : Int32} : GW X a m_A_value 7 111 2 12 0 (lv_args 0 [.ref (a 0), .int x, .int y]) [] c (pIT (fun v w => ∃ j q, (j < t.1 ∧ x = nI j ∧ ¬ t.2.2 j = 0) ∧ (q < 3 ∧ y = nI q) ∧ v = t.2.1 (3 * j + q) ∧ c = w)
    (fun e w => e = 2 ∧ ¬ (rwI t x ∧ clI y) ∧ c = w)) := by
  have hi := ok.1
  refine w_aload_n d_A_value_0 rfl ?_
  refine w_iload_n d_A_value_1 rfl ?_
  refine w_vVT [_] c_A_112 d_A_value_2 rfl h.A (by decide) (a_reqR hX h hi) (fun w hw => ?_) (fun e w hw => Or.inr ⟨e, rfl, hw.1, fun z => hw.2.1 z.1, hw.2.2⟩) rfl rfl rfl (gq rfl) (gq rfl) (gq rfl) (gq rfl) (gq rfl) (gq rfl)
  obtain ⟨⟨j, j1, rfl, j2⟩, rfl⟩ := hw
  refine w_iload_n d_A_value_5 rfl ?_
  refine w_sVT [_] c_A_118 d_A_value_6 (a_reqC hX) (fun w hw => ?_) (fun e w hw => Or.inr ⟨e, rfl, hw.1, fun z => hw.2.1 z.2, hw.2.2⟩) rfl rfl rfl (gq rfl) (gq rfl) (gq rfl) (gq rfl) (gq rfl) (gq rfl)
  obtain ⟨⟨q, q1, rfl⟩, rfl⟩ := hw
  refine w_aload_n d_A_value_9 rfl ?_
  refine w_getf g_A_12 d_A_value_10 h.A rfl (by decide) ?_
  refine w_iload_n d_A_value_13 rfl ?_
  refine w_iload_n d_A_value_14 rfl ?_
  refine w_vI [_, _] c_A_125 d_A_value_15 rfl h.T (by decide) (t_at (r := j) (k := q) h.T h.V (by omega) q1) (fun x w hw => ?_) rfl rfl (gq rfl) (gq rfl) (gq rfl) (gq rfl) (gq rfl) (gq rfl)
  obtain ⟨rfl, rfl⟩ := hw
  exact w_iret d_A_value_18 rfl (Or.inl ⟨_, rfl, j, q, ⟨j1, rfl, j2⟩, ⟨q1, rfl⟩, rfl, rfl⟩)
theorem a_where (hX : X.l.stackTraces = false) (h : cls X a c t k o l p d b r) {x y z u : Int32} : GW X a m_A_where 7 110 2 12 0 (lv_args 0 [.ref (a 0), .int x, .int y, .int z, .int u]) [] c (pVT (fun w => ∃ q, (q < 3 ∧ x = nI q) ∧ kdI y ∧ cls X a w t (putC k q y z u) o l p d b r ∧ sameA c w)
    (fun e w => ((e = 2 ∧ ¬ clI x) ∨ (e = 0 ∧ clI x ∧ ¬ kdI y)) ∧ c = w)) := by
  refine w_iload_n d_A_where_0 rfl ?_
  refine w_sVT [_] c_A_118 d_A_where_1 (a_reqC hX) (fun w hw => ?_) (fun e w hw => Or.inr ⟨e, rfl, Or.inl ⟨hw.1, hw.2.1⟩, hw.2.2⟩) rfl rfl rfl (gq rfl) (gq rfl) (gq rfl) (gq rfl) (gq rfl) (gq rfl)
  obtain ⟨⟨q, q1, rfl⟩, rfl⟩ := hw
  refine w_iload_n d_A_where_4 rfl ?_
  refine w_if_lt 13 d_A_where_5 (by decide) (fun h1 => ?_) (fun h1 => ?_)
  · -- taken
    exact w_throw hX (k := 0) (tx := "no such kind of condition") (by decide) rfl rfl w_546 (by decide) d_A_where_13 d_A_where_16 (Or.inl d_A_where_17) d_A_where_19 d_A_where_22 (gq rfl) (gq rfl) (gq rfl) (gq rfl) (gq rfl) (Or.inr ⟨0, rfl, Or.inr ⟨rfl, ⟨q, q1, rfl⟩, fun z => by rcases z with rfl | rfl | rfl <;> exact absurd h1 (by decide)⟩, rfl⟩)
  · -- not taken
    refine w_iload_n d_A_where_8 rfl ?_
    refine w_iconst 2 d_A_where_9 (by decide) ?_
    refine w_icmp_le 23 d_A_where_10 (by decide) (fun h2 => ?_) (fun h2 => ?_)
    · -- taken
      refine w_aload_n d_A_where_23 rfl ?_
      refine w_getf g_A_19 d_A_where_24 h.A rfl (by decide) ?_
      refine w_iload_n d_A_where_27 rfl ?_
      refine w_iload_n d_A_where_28 rfl ?_
      refine w_iload_n d_A_where_29 rfl ?_
      refine w_iload d_A_where_30 rfl ?_
      refine w_vV [_, _, _, _] c_A_134 d_A_where_32 rfl h.C.1 (by decide) (c_put (j := q) h.C (by decide) q1) (fun w hw => ?_) rfl rfl (gq rfl) (gq rfl) (gq rfl) (gq rfl) (gq rfl) (gq rfl)
      obtain ⟨w1, hs⟩ := hw
      exact w_vret d_A_where_35 rfl (Or.inl ⟨rfl, q, ⟨q1, rfl⟩, kd_of h1 h2, h.part hs (Or.inl ⟨by decide, rfl, rfl⟩) (Or.inl ⟨by decide, by decide, by decide, rfl⟩) (Or.inr w1) (Or.inl ⟨by decide, by decide, by decide⟩) (Or.inl ⟨by decide, by decide⟩) (Or.inl ⟨by decide, by decide, by decide, rfl⟩) (Or.inl ⟨by simp; omega, rfl⟩) (by decide) (Or.inl ⟨by decide, by decide, rfl⟩) (Or.inl ⟨by decide, by decide, rfl⟩), sameA_of hs (by simp)⟩)
    · -- not taken
      exact w_throw hX (k := 0) (tx := "no such kind of condition") (by decide) rfl rfl w_546 (by decide) d_A_where_13 d_A_where_16 (Or.inl d_A_where_17) d_A_where_19 d_A_where_22 (gq rfl) (gq rfl) (gq rfl) (gq rfl) (gq rfl) (Or.inr ⟨0, rfl, Or.inr ⟨rfl, ⟨q, q1, rfl⟩, fun z => by rcases z with rfl | rfl | rfl <;> exact absurd h2 (by decide)⟩, rfl⟩)
abbrev ordP (X : gX) (a : Nat → Nat) (c : Nat → va_E) (t : QT) (k : QC) (o : QO) (l : QL) (p : QP) (d : QD) (b : QB) (r : List Nat) (x y : Int32) : gO → (Nat → va_E) → Prop := pVT (fun w => isCol x ∧ ∃ m, m ≤ 64 ∧ y = nI m ∧ cls X a w t k (x, m, o.2.2) l p d b r ∧ sameA c w)
    (fun e w => ((e = 2 ∧ ¬ isCol x) ∨ (e = 0 ∧ isCol x ∧ ¬ ∃ m, m ≤ 64 ∧ y = nI m)) ∧ c = w)
theorem a_ord9 (hX : X.l.stackTraces = false) (h : cls X a c t k o l p d b r) {x y : Int32} (hx : isCol x) : GW X a m_A_order 7 110 1 6 9 [(0, .ref (a 0)), (1, .int x), (2, .int y)] [] c (ordP X a c t k o l p d b r x y) := by
  refine w_iload_n d_A_order_9 rfl ?_
  refine w_if_lt 19 d_A_order_10 (by decide) (fun h1 => ?_) (fun h1 => ?_)
  · -- taken
    exact w_throw hX (k := 0) (tx := "the limit is not 0 .. 64") (by decide) rfl rfl w_546 (by decide) d_A_order_19 d_A_order_22 (Or.inl d_A_order_23) d_A_order_25 d_A_order_28 (gq rfl) (gq rfl) (gq rfl) (gq rfl) (gq rfl) (Or.inr ⟨0, rfl, Or.inr ⟨rfl, hx, fun z => by obtain ⟨m, hm, rfl⟩ := z; exact nI_n0 (by omega) h1⟩, rfl⟩)
  · -- not taken
    refine w_iload_n d_A_order_13 rfl ?_
    refine w_bipush 64 d_A_order_14 (by decide) ?_
    refine w_icmp_le 29 d_A_order_16 (by decide) (fun h2 => ?_) (fun h2 => ?_)
    · -- taken
      obtain ⟨m, hm, rfl⟩ := nn_le (n := 64) h1 h2 (by decide)
      refine w_aload_n d_A_order_29 rfl ?_
      refine w_iload_n d_A_order_30 rfl ?_
      refine w_putf p_A_78 d_A_order_31 h.A rfl rfl (gqL rfl) (by decide) ?_
      refine w_aload_n d_A_order_34 rfl ?_
      refine w_iload_n d_A_order_35 rfl ?_
      refine w_putf p_A_82 d_A_order_36 va_s rfl rfl (gqL rfl) (by decide) ?_
      have hs : same c (va_up (va_up c 0 (oA a x o.2.1 o.2.2 l.1 l.2)) 0 (oA a x m o.2.2 l.1 l.2)) [0] := same_trans (same_up (by simp)) (same_up (by simp))
      exact w_vret d_A_order_39 rfl (Or.inl ⟨rfl, hx, m, hm, rfl, h.part hs (Or.inr va_s) (Or.inl ⟨by decide, by decide, by decide, rfl⟩) (Or.inl ⟨by decide, by decide, by decide, by decide, rfl⟩) (Or.inl ⟨by decide, by decide, by decide⟩) (Or.inl ⟨by decide, by decide⟩) (Or.inl ⟨by decide, by decide, by decide, rfl⟩) (Or.inl ⟨by simp; omega, rfl⟩) (by decide) (Or.inl ⟨by decide, by decide, rfl⟩) (Or.inl ⟨by decide, by decide, rfl⟩), sameA_of hs (by simp)⟩)
    · -- not taken
      exact w_throw hX (k := 0) (tx := "the limit is not 0 .. 64") (by decide) rfl rfl w_546 (by decide) d_A_order_19 d_A_order_22 (Or.inl d_A_order_23) d_A_order_25 d_A_order_28 (gq rfl) (gq rfl) (gq rfl) (gq rfl) (gq rfl) (Or.inr ⟨0, rfl, Or.inr ⟨rfl, hx, fun z => by obtain ⟨m, hm, rfl⟩ := z; exact h2 (nI_le (b := 64) hm (by decide))⟩, rfl⟩)
theorem a_order (hX : X.l.stackTraces = false) (h : cls X a c t k o l p d b r) {x y : Int32} : GW X a m_A_order 7 110 2 12 0 (lv_args 0 [.ref (a 0), .int x, .int y]) [] c (ordP X a c t k o l p d b r x y) := by
  refine w_iload_n d_A_order_0 rfl ?_
  refine w_iconst (-1) d_A_order_1 (by decide) ?_
  refine w_icmp_eq 9 d_A_order_2 (by decide) (fun h1 => ?_) (fun h1 => ?_)
  · -- taken
    refine w_room (C' := 1) (S' := 6) (by decide) (by decide) ?_
    exact a_ord9 hX h (Or.inl h1)
  · -- not taken
    refine w_iload_n d_A_order_5 rfl ?_
    refine w_sVT [_] c_A_118 d_A_order_6 (a_reqC hX) (fun w hw => ?_) (fun e w hw => Or.inr ⟨e, rfl, Or.inl ⟨hw.1, fun z => z.elim h1 hw.2.1⟩, hw.2.2⟩) rfl rfl rfl (gq rfl) (gq rfl) (gq rfl) (gq rfl) (gq rfl) (gq rfl)
    obtain ⟨⟨q, q1, rfl⟩, rfl⟩ := hw
    exact a_ord9 hX h (Or.inr ⟨q, q1, rfl⟩)
theorem a_answer (hX : X.l.stackTraces = false) (h : cls X a c t k o l p d b r) (ok : okQ n t k o l p d b r) {x : Int32} : GW X a m_A_answer 6 90 1 6 0 (lv_args 0 [.ref (a 0), .int x]) [] c (pIT (fun v w => ∃ j, j < r.length ∧ x = nI j ∧ v = nI (r.getD j 0) ∧ c = w)
    (fun e w => e = 2 ∧ ¬ (∃ j, j < r.length ∧ x = nI j) ∧ c = w)) := by
  have hr := ok.2.2.2.2.2.2.2.1.1
  obtain ⟨fr, f1, f2⟩ := h.fr
  refine w_iload_n d_A_answer_0 rfl ?_
  refine w_if_lt 15 d_A_answer_1 (by decide) (fun h1 => ?_) (fun h1 => ?_)
  · -- taken
    exact w_throw hX (k := 2) (tx := "the answer has no such row") (by decide) rfl rfl w_671 (by decide) d_A_answer_15 d_A_answer_18 (Or.inl d_A_answer_19) d_A_answer_21 d_A_answer_24 (gq rfl) (gq rfl) (gq rfl) (gq rfl) (gq rfl) (Or.inr ⟨2, rfl, rfl, fun z => by obtain ⟨j, hj, rfl⟩ := z; exact nI_n0 (by omega) h1, rfl⟩)
  · -- not taken
    refine w_iload_n d_A_answer_4 rfl ?_
    refine w_aload_n d_A_answer_5 rfl ?_
    refine w_getf g_A_74 d_A_answer_6 h.A rfl (by decide) ?_
    refine w_getf g_A_152 d_A_answer_9 h.R rfl (by decide) ?_
    refine w_icmp_lt 25 d_A_answer_12 (by decide) (fun h2 => ?_) (fun h2 => ?_)
    · -- taken
      obtain ⟨j, hj, rfl⟩ := nn_lt h1 h2 (by omega)
      refine w_aload_n d_A_answer_25 rfl ?_
      refine w_getf g_A_74 d_A_answer_26 h.A rfl (by decide) ?_
      refine w_getf g_A_160 d_A_answer_29 h.R rfl (by decide) ?_
      refine w_iload_n d_A_answer_32 rfl ?_
      refine w_iald d_A_answer_33 f1 rfl (by omega) (by decide) (by decide) ?_
      exact w_iret d_A_answer_34 rfl (Or.inl ⟨_, rfl, j, hj, rfl, by have := f2 j hj; rw [Nat.zero_add] at this; exact this, rfl⟩)
    · -- not taken
      exact w_throw hX (k := 2) (tx := "the answer has no such row") (by decide) rfl rfl w_671 (by decide) d_A_answer_15 d_A_answer_18 (Or.inl d_A_answer_19) d_A_answer_21 d_A_answer_24 (gq rfl) (gq rfl) (gq rfl) (gq rfl) (gq rfl) (Or.inr ⟨2, rfl, rfl, fun z => by obtain ⟨j, hj, rfl⟩ := z; exact h2 (nI_lt hj (by omega)), rfl⟩)
theorem a_last (hX : X.l.stackTraces = false) (h : cls X a c t k o l p d b r) {x : Int32} : GW X a m_A_last 6 90 1 6 0 (lv_args 0 [.ref (a 0), .int x]) [] c (pIT (fun v w => ((x = 0 ∧ v = oI l.1) ∨ (x = 1 ∧ v = l.2) ∨ (x = 2 ∧ v = nI p.2.2.2.2.1) ∨ (x = 3 ∧ v = nI p.2.2.2.2.2)) ∧ c = w)
    (fun e w => e = 2 ∧ ¬ (x = 0 ∨ x = 1 ∨ x = 2 ∨ x = 3) ∧ c = w)) := by
  refine w_iload_n d_A_last_0 rfl ?_
  rcases (Classical.em (x = 0)) with rfl | n0
  · -- case
    refine w_tabIn 32 d_A_last_1 (by decide) (by decide) rfl (by decide) ?_
    refine w_aload_n d_A_last_32 rfl ?_
    refine w_getf g_A_88 d_A_last_33 h.A rfl (by decide) ?_
    exact w_iret d_A_last_36 rfl (Or.inl ⟨_, rfl, Or.inl ⟨rfl, rfl⟩, rfl⟩)
  · -- case
    rcases (Classical.em (x = 1)) with rfl | n1
    · -- case
      refine w_tabIn 37 d_A_last_1 (by decide) (by decide) rfl (by decide) ?_
      refine w_aload_n d_A_last_37 rfl ?_
      refine w_getf g_A_164 d_A_last_38 h.A rfl (by decide) ?_
      exact w_iret d_A_last_41 rfl (Or.inl ⟨_, rfl, Or.inr (Or.inl ⟨rfl, rfl⟩), rfl⟩)
    · -- case
      rcases (Classical.em (x = 2)) with rfl | n2
      · -- case
        refine w_tabIn 42 d_A_last_1 (by decide) (by decide) rfl (by decide) ?_
        refine w_aload_n d_A_last_42 rfl ?_
        refine w_getf g_A_44 d_A_last_43 h.A rfl (by decide) ?_
        refine w_getf g_A_167 d_A_last_46 h.P.1 rfl (by decide) ?_
        exact w_iret d_A_last_49 rfl (Or.inl ⟨_, rfl, Or.inr (Or.inr (Or.inl ⟨rfl, rfl⟩)), rfl⟩)
      · -- case
        rcases (Classical.em (x = 3)) with rfl | n3
        · -- case
          refine w_tabIn 50 d_A_last_1 (by decide) (by decide) rfl (by decide) ?_
          refine w_aload_n d_A_last_50 rfl ?_
          refine w_getf g_A_44 d_A_last_51 h.A rfl (by decide) ?_
          refine w_getf g_A_170 d_A_last_54 h.P.1 rfl (by decide) ?_
          exact w_iret d_A_last_57 rfl (Or.inl ⟨_, rfl, Or.inr (Or.inr (Or.inr ⟨rfl, rfl⟩)), rfl⟩)
        · -- case
          refine w_tabOut 58 d_A_last_1 (sw_out 4 (by decide) (sw4 n0 n1 n2 n3)) (by decide) ?_
          exact w_throw hX (k := 2) (tx := "no such figure of an asking") (by decide) rfl rfl w_671 (by decide) d_A_last_58 d_A_last_61 (Or.inl d_A_last_62) d_A_last_64 d_A_last_67 (gq rfl) (gq rfl) (gq rfl) (gq rfl) (gq rfl) (Or.inr ⟨2, rfl, rfl, fun z => by rcases z with z | z | z | z; exact n0 z; exact n1 z; exact n2 z; exact n3 z, rfl⟩)
end PB
