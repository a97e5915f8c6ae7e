/-! The law's entry: what the tables give of the start -/
theorem st_tw {s : State} {A : Array Value} (hts : ∀ w ∈ lw_tbl, w.before A s = true) : ∀ w ∈ gTW, w.before #[] s = true := fun w h => va_tabs (gTW_on w h) rfl (hts w (List.mem_filter.mp h).1)
theorem st_K {s : State} {A : Array Value} (hts : ∀ w ∈ gTW, w.before A s = true) : ∃ D : va_G, ∀ (c : Nat) (q : vw_C), vwCl[c]? = some q → u_Kn s q.1 q.2.1 q.2.2 (D.1 c) (D.2 c) := by
  obtain ⟨c0, i0, h0⟩ := u_known hts ws_A (hts _ w_23)
  obtain ⟨c1, i1, h1⟩ := u_known hts ws_T (hts _ w_31)
  obtain ⟨c2, i2, h2⟩ := u_known hts ws_C (hts _ w_57)
  obtain ⟨c3, i3, h3⟩ := u_known hts ws_S (hts _ w_75)
  obtain ⟨c4, i4, h4⟩ := u_known hts ws_W (hts _ w_117)
  obtain ⟨c5, i5, h5⟩ := u_known hts ws_P (hts _ w_130)
  obtain ⟨c6, i6, h6⟩ := u_known hts ws_D (hts _ w_160)
  obtain ⟨c7, i7, h7⟩ := u_known hts ws_V (hts _ w_210)
  obtain ⟨c8, i8, h8⟩ := u_known hts ws_B (hts _ w_226)
  obtain ⟨c9, i9, h9⟩ := u_known hts ws_R (hts _ w_81)
  obtain ⟨c10, i10, h10⟩ := u_known hts ws_H (hts _ w_167)
  obtain ⟨c11, i11, h11⟩ := u_known hts ws_M (hts _ w_862)
  refine ⟨(fun k => [c0, c1, c2, c3, c4, c5, c6, c7, c8, c9, c10, c11].getD k c0, fun k => [i0, i1, i2, i3, i4, i5, i6, i7, i8, i9, i10, i11].getD k i0), fun c q hq => ?_⟩
  match c, hq with
  | 0, hq => cases hq; exact h0
  | 1, hq => cases hq; exact h1
  | 2, hq => cases hq; exact h2
  | 3, hq => cases hq; exact h3
  | 4, hq => cases hq; exact h4
  | 5, hq => cases hq; exact h5
  | 6, hq => cases hq; exact h6
  | 7, hq => cases hq; exact h7
  | 8, hq => cases hq; exact h8
  | 9, hq => cases hq; exact h9
  | 10, hq => cases hq; exact h10
  | 11, hq => cases hq; exact h11
  | k + 12, hq => simp [vwCl] at hq
theorem st_arr {s : State} {A : Array Value} {ty : FieldType} (h : (Cond.arrayClass ty).before A s = true) (ho : ∀ (k : String), ty ≠ .object k) : ∃ cA, ArrOfT s cA ty ∧ va_RA s cA ty := by
  obtain ⟨c, k, comp, f1, f2, f3⟩ := Cond.arrayClass_spec h
  refine ⟨c, fun n z => ⟨fun k h => (by cases h), k, f2, comp, f3⟩, ?_⟩
  cases ty with
  | object C => exact absurd rfl (ho C)
  | _ => exact f1
theorem st_arq {s : State} (h : va_AO gShape s) : ∃ cA, ArrOfT s cA (.object gShape) ∧ va_RA s cA (.object gShape) := by
  obtain ⟨comp, c, k, f1, -, f2, f3, f4⟩ := Cond.arrayOver_spec h
  exact ⟨c, fun n z => ⟨fun k h => (by cases h), k, f2, comp, f3⟩, k, comp, f2, f3, f1, f4⟩
theorem st_str {s : State} {A : Array Value} (hts : ∀ w ∈ lw_tbl, w.before A s = true) : ∀ q ∈ gSTR, ∃ a, vk_R q.1 q.2.1 q.2.2 a s := by
  obtain ⟨cC, kC, hfc, -⟩ := Cond.instantiable_spec (st_tw hts _ w_23)
  intro q hq
  have hw : Cond.stringRef q.1 q.2.1 q.2.2 ∈ lw_tbl := (by decide +kernel : ∀ q ∈ gSTR, Cond.stringRef q.1 q.2.1 q.2.2 ∈ lw_tbl) q hq
  have hq1 : q.1 = "SelfArranger" := (by decide +kernel : ∀ q ∈ gSTR, q.1 = "SelfArranger") q hq
  have h := hts _ hw
  obtain ⟨k, cf, i, a, -, -, -, -, -, hev⟩ := Cond.stringRef_spec (by rw [hq1]; exact hfc) h
  exact ⟨a, vk_R.of h hev⟩
theorem st_lay {X : gX} {s : State} {A : Array Value} (hH : X.H0 = s.heap) {C n d : String} (hl : (Cond.laysStatic C n d).before A s = true) (hv : (Cond.isRef (.static C n d)).before A s = true) : gLS X s C n d := by
  obtain ⟨c, k, i, f, a, cell, hc, hi, hst, ha, hcell, hs, hcls, hlt, hty⟩ := Cond.laysStatic_spec hl
  obtain ⟨v, h1, h2⟩ := Cond.isRef_spec hv
  obtain ⟨-, a', cell', ha', hcell', -, hslot⟩ := Term.static_spec hi h1
  cases ha.symm.trans ha'
  cases hcell.symm.trans hcell'
  exact ⟨c, k, i, f, a, cell, v, hc, hi, hst, ha, by rw [hH]; exact hcell, hs, hcls, hlt, hty, hslot, h2⟩
theorem lw_in {w : Cond} (i : Nat) (h : tables_1[i]? = some w) : w ∈ lw_tbl := List.mem_append_right _ (List.mem_of_getElem? h)
-- what the Statement gives of the statics and of the four exceptions
theorem gv_a1 : Cond.arrayOf (.static "SelfArranger" "FIRST_COLUMN" "[I") .int ∈ flatC (Jvm.Cond.and given_1 narrow_1) := by decide +kernel
theorem gv_a2 : Cond.arrayOf (.static "SelfArranger" "SECOND_COLUMN" "[I") .int ∈ flatC (Jvm.Cond.and given_1 narrow_1) := by decide +kernel
theorem gv_l1 : Cond.eq (.length (.static "SelfArranger" "FIRST_COLUMN" "[I")) (.int (Int32.ofNat 9)) ∈ flatC (Jvm.Cond.and given_1 narrow_1) := by decide +kernel
theorem gv_l2 : Cond.eq (.length (.static "SelfArranger" "SECOND_COLUMN" "[I")) (.int (Int32.ofNat 9)) ∈ flatC (Jvm.Cond.and given_1 narrow_1) := by decide +kernel
theorem gv_e1 : ∀ j, j < 9 → Cond.eq (.elem (.static "SelfArranger" "FIRST_COLUMN" "[I") (.int (Int32.ofNat j))) (.int (([0, 1, 2, 0, 0, 1, 1, 2, 2] : List Int32).getD j 0)) ∈ flatC (Jvm.Cond.and given_1 narrow_1) := by decide +kernel
theorem gv_e2 : ∀ j, j < 9 → Cond.eq (.elem (.static "SelfArranger" "SECOND_COLUMN" "[I") (.int (Int32.ofNat j))) (.int (([-1, -1, -1, 1, 2, 0, 2, 0, 1] : List Int32).getD j 0)) ∈ flatC (Jvm.Cond.and given_1 narrow_1) := by decide +kernel
theorem gv_r1 : Cond.isRef (.static "java/lang/Throwable" "UNASSIGNED_STACK" "[Ljava/lang/StackTraceElement;") ∈ flatC (Jvm.Cond.and given_1 narrow_1) := by decide +kernel
theorem gv_r2 : Cond.isRef (.static "java/lang/Throwable" "SUPPRESSED_SENTINEL" "Ljava/util/List;") ∈ flatC (Jvm.Cond.and given_1 narrow_1) := by decide +kernel
theorem gv_nc : ∀ i, i < 4 → ∀ j, j < 4 → i ≠ j → Cond.not (.castable (gEx i) (gEx j)) ∈ flatC (Jvm.Cond.and given_1 narrow_1) := by decide +kernel
theorem st_T {s : State} {b L : Nat} {xs : Nat → Int32} (l : Launch) (hts : ∀ w ∈ lw_tbl, w.before #[Value.ref b] s = true) (hXs : va_X b L xs s s.heap) (hbl : b < s.heap.size) (hgv : (Jvm.Cond.and given_1 narrow_1).before #[Value.ref b] s = true) :
    ∃ X : gX, X.l = l ∧ X.H0 = s.heap ∧ X.sb = b ∧ X.sl = L ∧ gT X s := by
  have hs := flat_of_before _ hgv
  obtain ⟨D, hD⟩ := st_K (st_tw hts)
  have wI := hts (.arrayClass .int) (lw_in 54 (by decide +kernel))
  have wZ := hts (.arrayClass .boolean) (lw_in 55 (by decide +kernel))
  have wJ := hts (.arrayClass .long) (lw_in 1193 (by decide +kernel))
  have wQ : va_AO gShape s := va_AO.of (hts (.arrayOver (.object gShape)) (lw_in 166 (by decide +kernel)))
  obtain ⟨cI, i1, i2⟩ := st_arr wI (fun k h => by cases h)
  obtain ⟨cZ, z1, z2⟩ := st_arr wZ (fun k h => by cases h)
  obtain ⟨cJ, j1, j2⟩ := st_arr wJ (fun k h => by cases h)
  obtain ⟨cQ, q1, q2⟩ := st_arq wQ
  have hini := hts (.initialized "SelfArranger") (lw_in 1 (by decide +kernel))
  obtain ⟨t1, ht1, hT1⟩ := va_Tof (f := gF1) (N := 9) (A := fun q : Nat => s.heap.size ≤ q) (by decide) (hs _ gv_a1) (va_eqt (hs _ gv_l1)) (fun j hj => va_eqt (hs _ (gv_e1 j hj))) (fun a h9 => Nat.not_le.mpr h9)
  obtain ⟨t2, ht2, hT2⟩ := va_Tof (f := gF2) (N := 9) (A := fun q : Nat => s.heap.size ≤ q) (by decide) (hs _ gv_a2) (va_eqt (hs _ gv_l2)) (fun j hj => va_eqt (hs _ (gv_e2 j hj))) (fun a h9 => Nat.not_le.mpr h9)
  have hZ1 : va_Z "SelfArranger" "FIRST_COLUMN" "[I" (.ref t1) (fun q : Nat => s.heap.size ≤ q) s s.heap := va_Zref (hts _ (lw_in 313 (by decide +kernel))) hini ht1 (fun a h9 => Nat.not_le.mpr h9)
  have hZ2 : va_Z "SelfArranger" "SECOND_COLUMN" "[I" (.ref t2) (fun q : Nat => s.heap.size ≤ q) s s.heap := va_Zref (hts _ (lw_in 324 (by decide +kernel))) hini ht2 (fun a h9 => Nat.not_le.mpr h9)
  refine ⟨(l, D, (cI, cZ, cJ, cQ), s.heap, (t1, t2), (b, L, xs)), rfl, rfl, rfl, rfl, st_tw hts, ⟨hD, fun k q hk => ?_⟩, hZ1, hZ2, hT1, hT2, hXs, hbl, fun ty hty => ?_, wQ, st_str hts, ?_, ?_, fun i j hi hj hij => va_Nc.of (hs _ (gv_nc i hi j hj hij))⟩
  · match k, hk with
    | 0, hk => cases hk; exact ⟨i1, i2⟩
    | 1, hk => cases hk; exact ⟨z1, z2⟩
    | 2, hk => cases hk; exact ⟨j1, j2⟩
    | 3, hk => cases hk; exact ⟨q1, q2⟩
    | k + 4, hk => simp at hk
  · simp only [List.mem_cons, List.not_mem_nil, or_false] at hty
    rcases hty with rfl | rfl | rfl
    · exact wI
    · exact wZ
    · exact wJ
  · exact st_lay rfl (hts _ (lw_in 573 (by decide +kernel))) (hs _ gv_r1)
  · exact st_lay rfl (hts _ (lw_in 575 (by decide +kernel))) (hs _ gv_r2)
-- nothing that was there is changed
theorem st_same {X : gX} {s t : State} {Ls : List Loc} {k n : Nat} (hH : X.H0 = s.heap) (h : s.sameButNew ({ t with vm := s.vm } : State) Ls k n) (hS : va_S (gA X s) s.heap t.heap Ls) : s.sameButNew ({ t with vm := s.vm } : State) [] k n := by
  refine ⟨h.1, h.2.1, h.2.2.1, h.2.2.2.1, h.2.2.2.2.1, fun a c hc => ⟨c, ?_, rfl, rfl, fun _ _ => rfl⟩⟩
  have ha : a < s.heap.size := (Array.getElem?_eq_some_iff.mp hc).1
  exact (hS.2.1 a ha (fun z => Nat.not_le.mpr ha (by have := z.1; rw [hH] at this; exact this))).trans hc
