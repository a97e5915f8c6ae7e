/-! SelfArranger: cost, index, shapes, shape, changes, period, budget, choose, costOf, build, work, drop, ask -/
abbrev cst (t : QT) (k : QC) (i : Nat) : Int32 := costX t.2.2 t.2.1 k.1 k.2.1 k.2.2 t.1 (liv t) i
theorem liv_le (t : QT) (h : t.1 ≤ 64) : liv t ≤ 64 := by have := liveL_len t.2.2 t.1; show (liveL t.2.2 t.1).length ≤ 64; omega
theorem fd_cong {f g : Nat → Int32} {x : Int32} : ∀ (d k : Nat), (∀ i, k ≤ i → i < k + d → f i = g i) → fdGo f x d k = fdGo g x d k
  | 0, _, _ => rfl
  | d + 1, k, h => by
    unfold fdGo
    rw [h k (Nat.le_refl _) (by omega), fd_cong d (k + 1) (fun i h1 h2 => h i (by omega) (by omega))]
theorem plc_cong {f g : Nat → Int32} {x : Int32} {cnt : Nat} (h : ∀ i, i < cnt → f i = g i) : plc f x cnt = plc g x cnt := by
  unfold plc
  rw [fd_cong cnt 0 (fun i _ h2 => h i (by omega))]
abbrev plQ (d : QD) (k : QC) : Nat := plc (fun i => kc (d.2.2 i).1) (kc k.1) d.1
def ntQ (d : QD) (k : QC) : QD := if plQ d k = 8 then d else (if plQ d k = d.1 then d.1 + 1 else d.1, d.2.1, va_up d.2.2 (plQ d k) (k.1, k.2.1, k.2.2, (if plQ d k = d.1 then 0 else (d.2.2 (plQ d k)).2.2.2) + 16))
def fdQ (d : QD) : QD := ((svL (fun i => (d.2.2 i).2.2.2) d.1).length, d.2.1 * 3 / 4, fun i => fadW (d.2.2 ((svL (fun i => (d.2.2 i).2.2.2) d.1).getD i 0)))
theorem sv_cong {f g : Nat → Nat} {k : Nat} (h : ∀ i, i < k → f i = g i) : svL f k = svL g k := by
  unfold svL
  exact List.filter_congr (fun x hx => by rw [h x (List.mem_range.mp hx)])
theorem sm_cong {f g : Nat → Int64} : ∀ (k : Nat), (∀ i, i < k → f i = g i) → smGo f k = smGo g k
  | 0, _ => rfl
  | k + 1, h => by
    unfold smGo
    rw [sm_cong k (fun i hi => h i (by omega)), h k (by omega)]
theorem set_cong {h v : Nat → Int32} {ins rt cnt ch : Nat} {S D : SH} (e : ∀ i, i < cnt → eqS (S i) (D i)) : setC h v ins rt cnt ch D = setC h v ins rt cnt ch S := by
  funext m
  unfold setC
  congr 1
  exact sm_cong cnt (fun i hi => by rw [ls_c (e i hi), (e i hi).2])
-- what a set costs, and the best within the budget
abbrev setQ (t : QT) (d : QD) : Nat → Int64 := setC t.2.2 t.2.1 t.1 (liv t) d.1 d.2.1 d.2.2
abbrev bstQ (t : QT) (d : QD) (bd : Nat) : Nat := (bsGo (setQ t d) (szo (leavesOf (liv t))) bd 511).1
-- the builder: begun, worked on, an index dropped
def begB (b : QB) (ins j : Nat) : QB := (finB (some j) ins, 0, 0, finS (upd b.2.2.2 j 1) (some j) ins)
def lftB (b : QB) (ins m : Nat) : Nat := ins - (b.2.1 + min m (ins - b.2.1)) + (b.2.2.1 - min (m - min m (ins - b.2.1)) b.2.2.1)
def wrkB (b : QB) (ins m : Nat) : QB := (finB b.1 (lftB b ins m), b.2.1 + min m (ins - b.2.1), b.2.2.1 - min (m - min m (ins - b.2.1)) b.2.2.1, finS b.2.2.2 b.1 (lftB b ins m))
def drpB (b : QB) (j : Nat) : QB := (if b.1 = some j then none else b.1, b.2.1, b.2.2.1, upd b.2.2.2 j 0)
theorem bI_01 (b : Bool) : bI b = 0 ∨ bI b = 1 := by cases b <;> simp [bI]
theorem nr {q lo n : Nat} (h : q ∉ List.range' lo n) : q < lo ∨ lo + n ≤ q := by have := mt List.mem_range'_1.mpr h; omega
section PC
variable {X : gX} {a : Nat → Nat} {c : Nat → va_E} {t : QT} {k : QC} {o : QO} {l : QL} {p : QP} {d : QD} {b : QB} {r : List Nat} {n : Nat}
theorem cls.ways (h : cls X a c t k o l p d b r) {w : Nat → va_E} (hs : same c w [8, 9, 10, 11, 12]) (h1 : stA X a w) (h2 : ∃ hp g, w 11 = oW a 11 hp ∧ w 12 = aI X 9 g) : cls X a w t k o l p d b r :=
  h.part hs (Or.inl ⟨by decide, rfl, rfl⟩) (Or.inl ⟨by decide, by decide, by decide, rfl⟩) (Or.inl ⟨by decide, by decide, by decide, by decide, rfl⟩) (Or.inr h1) (Or.inr h2) (Or.inl ⟨by decide, by decide, by decide, rfl⟩) (Or.inl ⟨by simp; omega, rfl⟩) (by decide) (Or.inl ⟨by decide, by decide, rfl⟩) (Or.inl ⟨by decide, by decide, rfl⟩)
theorem a_cost9 (h : cls X a c t k o l p d b r) (hi : t.1 ≤ 64) {q : Option Nat} (hq : ∀ j, q = some j → j < 9) {C S : Nat} : GW X a m_A_cost 7 115 C S 9 [(0, .ref (a 0)), (1, .int (oI q))] [] c (pI (fun v w => v = wyV (cst t k) (nI (fours t.1)) q ∧ cls X a w t k o l p d b r ∧ sameA c w)) := by
  obtain ⟨hp, g0, hW, hG⟩ := h.W
  have hrt := liv_le t hi
  refine w_aload_n d_A_cost_9 rfl ?_
  refine w_getf g_A_35 d_A_cost_10 h.A rfl (by decide) ?_
  refine w_aload_n d_A_cost_13 rfl ?_
  refine w_getf g_A_12 d_A_cost_14 h.A rfl (by decide) ?_
  refine w_aload_n d_A_cost_17 rfl ?_
  refine w_getf g_A_28 d_A_cost_18 h.A rfl (by decide) ?_
  refine w_aload_n d_A_cost_21 rfl ?_
  refine w_getf g_A_19 d_A_cost_22 h.A rfl (by decide) ?_
  refine w_vV [_, _, _] c_A_178 d_A_cost_25 rfl hW (by decide) (w_measure (qw := 11) (q := 4) hi hrt (by decide) (by decide) (by decide) (by decide) (by decide) h.T h.V h.H h.C h.S hW hG) (fun w hw => ?_) rfl rfl (gq rfl) (gq rfl) (gq rfl) (gq rfl) (gq rfl) (gq rfl)
  obtain ⟨m1, ⟨g, m2, m3⟩, m4, m5⟩ := hw
  have hA1 : w 0 = oA a o.1 o.2.1 o.2.2 l.1 l.2 := (m5 0 (by decide)).trans h.A
  refine w_aload_n d_A_cost_28 rfl ?_
  refine w_getf g_A_35 d_A_cost_29 hA1 rfl (by decide) ?_
  refine w_iload_n d_A_cost_32 rfl ?_
  refine w_vI [_] c_A_182 d_A_cost_33 rfl m1 (by decide) (w_at m1 m2 (by decide) hq) (fun x w hw => ?_) rfl rfl (gq rfl) (gq rfl) (gq rfl) (gq rfl) (gq rfl) (gq rfl)
  obtain ⟨rfl, rfl⟩ := hw
  have e : wyV g (nI (fours t.1)) q = wyV (cst t k) (nI (fours t.1)) q := by cases q with | none => rfl | some j => exact m3 j (hq j rfl)
  exact w_iret d_A_cost_36 rfl (⟨_, rfl, e, h.ways m5 m4 ⟨_, g, m1, m2⟩, sameA_of m5 (by simp)⟩)
theorem a_cost (hX : X.l.stackTraces = false) (h : cls X a c t k o l p d b r) (ok : okQ n t k o l p d b r) {x : Int32} : GW X a m_A_cost 7 115 1 6 0 (lv_args 0 [.ref (a 0), .int x]) [] c (pIT (fun v w => ∃ q, (∀ j, q = some j → j < 9) ∧ x = oI q ∧ v = wyV (cst t k) (nI (fours t.1)) q ∧ cls X a w t k o l p d b r ∧ sameA c w)
    (fun e w => e = 2 ∧ ¬ (x = -1 ∨ ixI x) ∧ c = w)) := by
  refine w_iload_n d_A_cost_0 rfl ?_
  refine w_iconst (-1) d_A_cost_1 (by decide) ?_
  refine w_icmp_eq 9 d_A_cost_2 (by decide) (fun h1 => ?_) (fun h1 => ?_)
  · -- taken
    subst h1
    refine w_post (fun r w hw => ?_) (a_cost9 (q := none) h ok.1 (fun j hj => by cases hj))
    obtain ⟨v, e1, e2, e3⟩ := hw
    exact Or.inl ⟨v, e1, none, (fun j hj => by cases hj), rfl, e2, e3⟩
  · -- not taken
    refine w_iload_n d_A_cost_5 rfl ?_
    refine w_sVT [_] c_A_175 d_A_cost_6 (a_reqI hX) (fun w hw => ?_) (fun e w hw => Or.inr ⟨e, rfl, hw.1, fun z => z.elim h1 hw.2.1, hw.2.2⟩) rfl rfl rfl (gq rfl) (gq rfl) (gq rfl) (gq rfl) (gq rfl) (gq rfl)
    obtain ⟨⟨q, q1, rfl⟩, rfl⟩ := hw
    refine w_post (fun r w hw => ?_) (a_cost9 (q := some q) h ok.1 (fun j hj => by cases hj; exact q1))
    obtain ⟨v, e1, e2, e3⟩ := hw
    exact Or.inl ⟨v, e1, some q, (fun j hj => by cases hj; exact q1), rfl, e2, e3⟩
theorem a_index (hX : X.l.stackTraces = false) (h : cls X a c t k o l p d b r) (ok : okQ n t k o l p d b r) {x y : Int32} : GW X a m_A_index 7 110 2 12 0 (lv_args 0 [.ref (a 0), .int x, .int y]) [] c (pIT (fun v w => ∃ j, (j < 9 ∧ x = nI j) ∧ ((y = 0 ∧ v = b.2.2.2 j) ∨ (y = 1 ∧ v = nI (hgt (leavesOf (liv t)))) ∨ (y = 2 ∧ v = nI (szo (leavesOf (liv t)))) ∨ (y = 3 ∧ v = oI (feGo t.2.2 (gtv t.2.1 (nI (fN j)) (scol j)) t.1))) ∧ c = w)
    (fun e w => e = 2 ∧ ¬ (ixI x ∧ (y = 0 ∨ y = 1 ∨ y = 2 ∨ y = 3)) ∧ c = w)) := by
  have hi := ok.1
  have hrt := liv_le t hi
  refine w_iload_n d_A_index_0 rfl ?_
  refine w_sVT [_] c_A_175 d_A_index_1 (a_reqI hX) (fun w hw => ?_) (fun e w hw => Or.inr ⟨e, rfl, hw.1, fun z => hw.2.1 z.1, hw.2.2⟩) rfl rfl rfl (gq rfl) (gq rfl) (gq rfl) (gq rfl) (gq rfl) (gq rfl)
  obtain ⟨⟨j, j1, rfl⟩, rfl⟩ := hw
  refine w_iload_n d_A_index_4 rfl ?_
  rcases (Classical.em (y = 0)) with rfl | n0
  · -- case
    refine w_tabIn 36 d_A_index_5 (by decide) (by decide) rfl (by decide) ?_
    refine w_aload_n d_A_index_36 rfl ?_
    refine w_getf g_A_67 d_A_index_37 h.A rfl (by decide) ?_
    refine w_getf g_A_185 d_A_index_40 h.B rfl (by decide) ?_
    refine w_iload_n d_A_index_43 rfl ?_
    refine w_iald d_A_index_44 h.s rfl j1 (by decide) (by decide) ?_
    exact w_iret d_A_index_45 rfl (Or.inl ⟨_, rfl, j, ⟨j1, rfl⟩, Or.inl ⟨rfl, rfl⟩, rfl⟩)
  · -- case
    rcases (Classical.em (y = 1)) with rfl | n1
    · -- case
      refine w_tabIn 46 d_A_index_5 (by decide) (by decide) rfl (by decide) ?_
      refine w_aload_n d_A_index_46 rfl ?_
      refine w_getf g_A_12 d_A_index_47 h.A rfl (by decide) ?_
      refine w_vI [] c_A_188 d_A_index_50 rfl h.T (by decide) (t_indexHeight h.T hrt) (fun x w hw => ?_) rfl rfl (gq rfl) (gq rfl) (gq rfl) (gq rfl) (gq rfl) (gq rfl)
      obtain ⟨rfl, rfl⟩ := hw
      exact w_iret d_A_index_53 rfl (Or.inl ⟨_, rfl, j, ⟨j1, rfl⟩, Or.inr (Or.inl ⟨rfl, rfl⟩), rfl⟩)
    · -- case
      rcases (Classical.em (y = 2)) with rfl | n2
      · -- case
        refine w_tabIn 54 d_A_index_5 (by decide) (by decide) rfl (by decide) ?_
        refine w_aload_n d_A_index_54 rfl ?_
        refine w_getf g_A_12 d_A_index_55 h.A rfl (by decide) ?_
        refine w_vI [] c_A_192 d_A_index_58 rfl h.T (by decide) (t_indexSize h.T hrt) (fun x w hw => ?_) rfl rfl (gq rfl) (gq rfl) (gq rfl) (gq rfl) (gq rfl) (gq rfl)
        obtain ⟨rfl, rfl⟩ := hw
        exact w_iret d_A_index_61 rfl (Or.inl ⟨_, rfl, j, ⟨j1, rfl⟩, Or.inr (Or.inr (Or.inl ⟨rfl, rfl⟩)), rfl⟩)
      · -- case
        rcases (Classical.em (y = 3)) with rfl | n3
        · -- case
          refine w_tabIn 62 d_A_index_5 (by decide) (by decide) rfl (by decide) ?_
          refine w_aload_n d_A_index_62 rfl ?_
          refine w_getf g_A_12 d_A_index_63 h.A rfl (by decide) ?_
          refine g_get1 (Or.inl w_763) d_A_index_66 ?_
          refine w_iload_n d_A_index_69 rfl ?_
          refine w_ald1 d_A_index_70 rfl j1 ?_
          refine g_get2 (Or.inl w_764) d_A_index_71 ?_
          refine w_iload_n d_A_index_74 rfl ?_
          refine w_ald2 d_A_index_75 rfl j1 ?_
          rw [fN_col j1, show (([-1, -1, -1, 1, 2, 0, 2, 0, 1] : List Int32).getD j 0) = scol j from rfl]
          refine w_vI [_, _] c_A_201 d_A_index_76 rfl h.T (by decide) (t_firstEntry h.T h.V h.H hi (Or.inr ⟨fN j, fN_lt j1, rfl⟩) (scol_col j1)) (fun x w hw => ?_) rfl rfl (gq rfl) (gq rfl) (gq rfl) (gq rfl) (gq rfl) (gq rfl)
          obtain ⟨rfl, rfl⟩ := hw
          exact w_iret d_A_index_79 rfl (Or.inl ⟨_, rfl, j, ⟨j1, rfl⟩, Or.inr (Or.inr (Or.inr ⟨rfl, rfl⟩)), rfl⟩)
        · -- case
          refine w_tabOut 80 d_A_index_5 (sw_out 4 (by decide) (sw4 n0 n1 n2 n3)) (by decide) ?_
          exact w_throw hX (k := 2) (tx := "no such figure of an index") (by decide) rfl rfl w_671 (by decide) d_A_index_80 d_A_index_83 (Or.inl d_A_index_84) d_A_index_86 d_A_index_89 (gq rfl) (gq rfl) (gq rfl) (gq rfl) (gq rfl) (Or.inr ⟨2, rfl, rfl, fun z => z.2.elim n0 (fun z => z.elim n1 (fun z => z.elim n2 n3)), rfl⟩)
theorem a_shapes (h : cls X a c t k o l p d b r) : GW X a m_A_shapes 0 0 0 0 0 (lv_args 0 [.ref (a 0)]) [] c (pI (eI (nI d.1) c)) := by
  obtain ⟨pm, D, hL, -, -⟩ := h.D
  refine w_aload_n d_A_shapes_0 rfl ?_
  refine w_getf g_A_51 d_A_shapes_1 h.A rfl (by decide) ?_
  refine w_getf g_A_206 d_A_shapes_4 hL.1 rfl (by decide) ?_
  exact w_iret d_A_shapes_7 rfl (⟨_, rfl, rfl, rfl⟩)
theorem a_changes (h : cls X a c t k o l p d b r) : GW X a m_A_changes 0 0 0 0 0 (lv_args 0 [.ref (a 0)]) [] c (pI (eI (nI d.2.1) c)) := by
  obtain ⟨pm, D, hL, -, -⟩ := h.D
  refine w_aload_n d_A_changes_0 rfl ?_
  refine w_getf g_A_51 d_A_changes_1 h.A rfl (by decide) ?_
  refine w_getf g_A_233 d_A_changes_4 hL.1 rfl (by decide) ?_
  exact w_iret d_A_changes_7 rfl (⟨_, rfl, rfl, rfl⟩)
theorem a_budget (hX : X.l.stackTraces = false) (h : cls X a c t k o l p d b r) {x : Int32} : GW X a m_A_budget 6 90 1 6 0 (lv_args 0 [.ref (a 0), .int x]) [] c (pVT (fun w => ∃ m, m ≤ 200 ∧ x = nI m ∧ cls X a w t k (o.1, o.2.1, m) l p d b r ∧ sameA c w)
    (fun e w => e = 0 ∧ ¬ (∃ m, m ≤ 200 ∧ x = nI m) ∧ c = w)) := by
  refine w_iload_n d_A_budget_0 rfl ?_
  refine w_if_lt 11 d_A_budget_1 (by decide) (fun h1 => ?_) (fun h1 => ?_)
  · -- taken
    exact w_throw hX (k := 0) (tx := "the budget is not 0 .. 200") (by decide) rfl rfl w_546 (by decide) d_A_budget_11 d_A_budget_14 (Or.inl d_A_budget_15) d_A_budget_17 d_A_budget_20 (gq rfl) (gq rfl) (gq rfl) (gq rfl) (gq rfl) (Or.inr ⟨0, rfl, rfl, fun z => by obtain ⟨m, hm, rfl⟩ := z; exact nI_n0 (by omega) h1, rfl⟩)
  · -- not taken
    refine w_iload_n d_A_budget_4 rfl ?_
    refine w_sipush 200 d_A_budget_5 (by decide) ?_
    refine w_icmp_le 21 d_A_budget_8 (by decide) (fun h2 => ?_) (fun h2 => ?_)
    · -- taken
      obtain ⟨m, hm, rfl⟩ := nn_le (n := 200) h1 h2 (by decide)
      refine w_aload_n d_A_budget_21 rfl ?_
      refine w_iload_n d_A_budget_22 rfl ?_
      refine w_putf p_A_85 d_A_budget_23 h.A rfl rfl (gqL rfl) (by decide) ?_
      have hs : same c (va_up c 0 (oA a o.1 o.2.1 m l.1 l.2)) [0] := same_up (by simp)
      exact w_vret d_A_budget_26 rfl (Or.inl ⟨rfl, m, hm, rfl, h.part hs (Or.inr va_s) (Or.inl ⟨by decide, by decide, by decide, rfl⟩) (Or.inl ⟨by decide, by decide, by decide, by decide, rfl⟩) (Or.inl ⟨by decide, by decide, by decide⟩) (Or.inl ⟨by decide, by decide⟩) (Or.inl ⟨by decide, by decide, by decide, rfl⟩) (Or.inl ⟨by simp; omega, rfl⟩) (by decide) (Or.inl ⟨by decide, by decide, rfl⟩) (Or.inl ⟨by decide, by decide, rfl⟩), sameA_of hs (by simp)⟩)
    · -- not taken
      exact w_throw hX (k := 0) (tx := "the budget is not 0 .. 200") (by decide) rfl rfl w_546 (by decide) d_A_budget_11 d_A_budget_14 (Or.inl d_A_budget_15) d_A_budget_17 d_A_budget_20 (gq rfl) (gq rfl) (gq rfl) (gq rfl) (gq rfl) (Or.inr ⟨0, rfl, rfl, fun z => by obtain ⟨m, hm, rfl⟩ := z; exact h2 (nI_le (b := 200) hm (by decide)), rfl⟩)
theorem cls.bld (h : cls X a c t k o l p d b r) {w : Nat → va_E} {b' : QB} (hs : same c w [75, 76]) (h1 : w 75 = oB a b'.1 b'.2.1 b'.2.2.1) (h2 : w 76 = aI X 9 b'.2.2.2) : cls X a w t k o l p d b' r :=
  h.part hs (Or.inl ⟨by decide, rfl, rfl⟩) (Or.inl ⟨by decide, by decide, by decide, rfl⟩) (Or.inl ⟨by decide, by decide, by decide, by decide, rfl⟩) (Or.inl ⟨by decide, by decide, by decide⟩) (Or.inl ⟨by decide, by decide⟩) (Or.inl ⟨by decide, by decide, by decide, rfl⟩) (Or.inl ⟨by simp; omega, rfl⟩) (by decide) (Or.inr ⟨h1, h2⟩) (Or.inl ⟨by decide, by decide, rfl⟩)
theorem a_build (hX : X.l.stackTraces = false) (h : cls X a c t k o l p d b r) (ok : okQ n t k o l p d b r) {x : Int32} : GW X a m_A_build 7 110 2 12 0 (lv_args 0 [.ref (a 0), .int x]) [] c (pVT (fun w => ∃ j, (j < 9 ∧ x = nI j) ∧ b.1 = none ∧ b.2.2.2 j = 0 ∧ cls X a w t k o l p d (begB b t.1 j) r ∧ sameA c w)
    (fun e w => ((e = 2 ∧ ¬ ixI x) ∨ (e = 3 ∧ ∃ j, (j < 9 ∧ x = nI j) ∧ ¬ (b.1 = none ∧ b.2.2.2 j = 0))) ∧ c = w)) := by
  refine w_iload_n d_A_build_0 rfl ?_
  refine w_sVT [_] c_A_175 d_A_build_1 (a_reqI hX) (fun w hw => ?_) (fun e w hw => Or.inr ⟨e, rfl, Or.inl ⟨hw.1, hw.2.1⟩, hw.2.2⟩) rfl rfl rfl (gq rfl) (gq rfl) (gq rfl) (gq rfl) (gq rfl) (gq rfl)
  obtain ⟨⟨j, j1, rfl⟩, rfl⟩ := hw
  refine w_aload_n d_A_build_4 rfl ?_
  refine w_getf g_A_67 d_A_build_5 h.A rfl (by decide) ?_
  refine w_vI [] c_A_252 d_A_build_8 rfl h.B (by decide) (b_isBusy h.B ok.2.2.2.2.2.2.1.1) (fun x w hw => ?_) rfl rfl (gq rfl) (gq rfl) (gq rfl) (gq rfl) (gq rfl) (gq rfl)
  obtain ⟨rfl, rfl⟩ := hw
  refine w_if_ne 26 d_A_build_11 (by decide) (fun h1 => ?_) (fun h1 => ?_)
  · -- taken
    have h1' : ¬ b.1 = none := fun z => by rw [z] at h1; exact h1 rfl
    exact w_throw hX (k := 3) (tx := "the index is not none, or another one is building") (by decide) rfl rfl w_808 (by decide) d_A_build_26 d_A_build_29 (Or.inr d_A_build_30) d_A_build_33 d_A_build_36 (gq rfl) (gq rfl) (gq rfl) (gq rfl) (gq rfl) (Or.inr ⟨3, rfl, Or.inr ⟨rfl, j, ⟨j1, rfl⟩, fun z => h1' z.1⟩, rfl⟩)
  · -- not taken
    have h1' : b.1 = none := by have := bI_t.mp h1; cases hb : b.1 with | none => rfl | some q => rw [hb] at this; cases this
    refine w_aload_n d_A_build_14 rfl ?_
    refine w_getf g_A_67 d_A_build_15 h.A rfl (by decide) ?_
    refine w_getf g_A_185 d_A_build_18 h.B rfl (by decide) ?_
    refine w_iload_n d_A_build_21 rfl ?_
    refine w_iald d_A_build_22 h.s rfl j1 (by decide) (by decide) ?_
    refine w_if_eq 37 d_A_build_23 (by decide) (fun h2 => ?_) (fun h2 => ?_)
    · -- taken
      refine w_aload_n d_A_build_37 rfl ?_
      refine w_getf g_A_67 d_A_build_38 h.A rfl (by decide) ?_
      refine w_iload_n d_A_build_41 rfl ?_
      refine w_vV [_] c_A_260 d_A_build_42 rfl h.B (by decide) (b_begin (j := j) h.B h.s h.T ok.1 j1) (fun w hw => ?_) rfl rfl (gq rfl) (gq rfl) (gq rfl) (gq rfl) (gq rfl) (gq rfl)
      obtain ⟨w1, w2, hs⟩ := hw
      exact w_vret d_A_build_45 rfl (Or.inl ⟨rfl, j, ⟨j1, rfl⟩, h1', h2, h.bld hs w1 w2, sameA_of hs (by simp)⟩)
    · -- not taken
      exact w_throw hX (k := 3) (tx := "the index is not none, or another one is building") (by decide) rfl rfl w_808 (by decide) d_A_build_26 d_A_build_29 (Or.inr d_A_build_30) d_A_build_33 d_A_build_36 (gq rfl) (gq rfl) (gq rfl) (gq rfl) (gq rfl) (Or.inr ⟨3, rfl, Or.inr ⟨rfl, j, ⟨j1, rfl⟩, fun z => h2 z.2⟩, rfl⟩)
theorem a_work (hX : X.l.stackTraces = false) (h : cls X a c t k o l p d b r) (ok : okQ n t k o l p d b r) {x : Int32} : GW X a m_A_work 6 90 2 12 0 (lv_args 0 [.ref (a 0), .int x]) [] c (pIT (fun v w => ∃ m, (1 ≤ m ∧ m ≤ 64 ∧ x = nI m) ∧ ¬ b.1 = none ∧ v = nI (lftB b t.1 m) ∧ cls X a w t k o l p d (wrkB b t.1 m) r ∧ sameA c w)
    (fun e w => ((e = 0 ∧ ¬ (∃ m, 1 ≤ m ∧ m ≤ 64 ∧ x = nI m)) ∨ (e = 3 ∧ (∃ m, 1 ≤ m ∧ m ≤ 64 ∧ x = nI m) ∧ b.1 = none)) ∧ c = w)) := by
  refine w_iload_n d_A_work_0 rfl ?_
  refine w_iconst 1 d_A_work_1 (by decide) ?_
  refine w_icmp_lt 11 d_A_work_2 (by decide) (fun h1 => ?_) (fun h1 => ?_)
  · -- taken
    exact w_throw hX (k := 0) (tx := "the number is not 1 .. 64") (by decide) rfl rfl w_546 (by decide) d_A_work_11 d_A_work_14 (Or.inr d_A_work_15) d_A_work_18 d_A_work_21 (gq rfl) (gq rfl) (gq rfl) (gq rfl) (gq rfl) (Or.inr ⟨0, rfl, Or.inl ⟨rfl, fun z => by obtain ⟨m, m1, hm, rfl⟩ := z; exact le_nlt (nI_le (a := 1) m1 (by omega)) h1⟩, rfl⟩)
  · -- not taken
    refine w_iload_n d_A_work_5 rfl ?_
    refine w_bipush 64 d_A_work_6 (by decide) ?_
    refine w_icmp_le 22 d_A_work_8 (by decide) (fun h2 => ?_) (fun h2 => ?_)
    · -- taken
      have h0 : ¬ x < 0 := fun z => h1 (Int32.lt_trans z (by decide))
      obtain ⟨m, hm, rfl⟩ := nn_le (n := 64) h0 h2 (by decide)
      have m1 : 1 ≤ m := by rcases Nat.eq_zero_or_pos m with z | z; subst z; exact absurd (show nI 0 < 1 by decide) h1; exact z
      refine w_aload_n d_A_work_22 rfl ?_
      refine w_getf g_A_67 d_A_work_23 h.A rfl (by decide) ?_
      refine w_vI [] c_A_252 d_A_work_26 rfl h.B (by decide) (b_isBusy h.B ok.2.2.2.2.2.2.1.1) (fun x w hw => ?_) rfl rfl (gq rfl) (gq rfl) (gq rfl) (gq rfl) (gq rfl) (gq rfl)
      obtain ⟨rfl, rfl⟩ := hw
      refine w_if_ne 43 d_A_work_29 (by decide) (fun h3 => ?_) (fun h3 => ?_)
      · -- taken
        have h1' : ¬ b.1 = none := fun z => by rw [z] at h3; exact h3 rfl
        refine w_aload_n d_A_work_43 rfl ?_
        refine w_getf g_A_67 d_A_work_44 h.A rfl (by decide) ?_
        refine w_iload_n d_A_work_47 rfl ?_
        refine w_vI [_] c_A_267 d_A_work_48 rfl h.B (by decide) (b_handle (n := m) h.B h.s h.T ok.2.2.2.2.2.2.1.2.1 ok.1 (by have := ok.2.2.2.2.2.2.1.2.2; have := ok.2.2.2.2.2.2.2.2; omega) hm ok.2.2.2.2.2.2.1.1) (fun x w hw => ?_) rfl rfl (gq rfl) (gq rfl) (gq rfl) (gq rfl) (gq rfl) (gq rfl)
        obtain ⟨rfl, w1, w2, hs⟩ := hw
        exact w_iret d_A_work_51 rfl (Or.inl ⟨_, rfl, m, ⟨m1, hm, rfl⟩, h1', rfl, h.bld (b' := wrkB b t.1 m) hs w1 w2, sameA_of hs (by simp)⟩)
      · -- not taken
        have h1' : b.1 = none := by have := bI_t.mp h3; cases hb : b.1 with | none => rfl | some q => rw [hb] at this; cases this
        exact w_throw hX (k := 3) (tx := "no index is building") (by decide) rfl rfl w_808 (by decide) d_A_work_32 d_A_work_35 (Or.inr d_A_work_36) d_A_work_39 d_A_work_42 (gq rfl) (gq rfl) (gq rfl) (gq rfl) (gq rfl) (Or.inr ⟨3, rfl, Or.inr ⟨rfl, ⟨m, m1, hm, rfl⟩, h1'⟩, rfl⟩)
    · -- not taken
      exact w_throw hX (k := 0) (tx := "the number is not 1 .. 64") (by decide) rfl rfl w_546 (by decide) d_A_work_11 d_A_work_14 (Or.inr d_A_work_15) d_A_work_18 d_A_work_21 (gq rfl) (gq rfl) (gq rfl) (gq rfl) (gq rfl) (Or.inr ⟨0, rfl, Or.inl ⟨rfl, fun z => by obtain ⟨m, m1, hm, rfl⟩ := z; exact h2 (nI_le (b := 64) hm (by decide))⟩, rfl⟩)
theorem a_drop (hX : X.l.stackTraces = false) (h : cls X a c t k o l p d b r) (ok : okQ n t k o l p d b r) {x : Int32} : GW X a m_A_drop 7 110 1 6 0 (lv_args 0 [.ref (a 0), .int x]) [] c (pIT (fun v w => ∃ j, (j < 9 ∧ x = nI j) ∧ v = bI (decide (¬ b.2.2.2 j = 0)) ∧ cls X a w t k o l p d (drpB b j) r ∧ sameA c w)
    (fun e w => e = 2 ∧ ¬ ixI x ∧ c = w)) := by
  refine w_iload_n d_A_drop_0 rfl ?_
  refine w_sVT [_] c_A_175 d_A_drop_1 (a_reqI hX) (fun w hw => ?_) (fun e w hw => Or.inr ⟨e, rfl, hw⟩) rfl rfl rfl (gq rfl) (gq rfl) (gq rfl) (gq rfl) (gq rfl) (gq rfl)
  obtain ⟨⟨j, j1, rfl⟩, rfl⟩ := hw
  refine w_aload_n d_A_drop_4 rfl ?_
  refine w_getf g_A_67 d_A_drop_5 h.A rfl (by decide) ?_
  refine w_iload_n d_A_drop_8 rfl ?_
  refine w_vI [_] c_A_270 d_A_drop_9 rfl h.B (by decide) (b_discard (j := j) h.B h.s j1 ok.2.2.2.2.2.2.1.1) (fun x w hw => ?_) rfl rfl (gq rfl) (gq rfl) (gq rfl) (gq rfl) (gq rfl) (gq rfl)
  obtain ⟨rfl, w1, w2, hs⟩ := hw
  exact w_zret (bI_01 _) d_A_drop_12 rfl ( Or.inl ⟨_, rfl, j, ⟨j1, rfl⟩, rfl, h.bld (b' := drpB b j) hs w1 w2, sameA_of hs (by simp)⟩)
theorem a_period (h : cls X a c t k o l p d b r) (ok : okQ n t k o l p d b r) : GW X a m_A_period 2 43 0 0 0 (lv_args 0 [.ref (a 0)]) [] c (pI (fun v w => v = nI (fdQ d).1 ∧ cls X a w t k o l p (fdQ d) b r ∧ sameA c w)) := by
  obtain ⟨pm, D, hL, h2, h3⟩ := h.D
  obtain ⟨d1, d2, d3⟩ := ok.2.2.2.2.2.1
  have hn := ok.2.2.2.2.2.2.2.2
  have hw0 : ∀ j, j < 8 → (D j).2.2.2 < 10000 := fun j hj => by
    obtain ⟨i, hi, rfl⟩ := hL.2.2.1.onto hj
    rcases Nat.lt_or_ge i d.1 with z | z
    · have := (d3 i z).1
      rw [(h2 i z).2] at this
      omega
    · rw [h3 i z hi]; omega
  have hsv : svL (fun i => (D (pm i)).2.2.2) d.1 = svL (fun i => (d.2.2 i).2.2.2) d.1 := sv_cong (fun i hi => ((h2 i hi).2).symm)
  refine w_aload_n d_A_period_0 rfl ?_
  refine w_getf g_A_51 d_A_period_1 h.A rfl (by decide) ?_
  refine w_vV [] c_A_236 d_A_period_4 rfl hL.1 (by decide) (d_fade hL d1 (by omega) hw0 h3) (fun w hw => ?_) rfl rfl (gq rfl) (gq rfl) (gq rfl) (gq rfl) (gq rfl) (gq rfl)
  obtain ⟨⟨pm', D', e1, e2, e3⟩, hs⟩ := hw
  rw [hsv] at e1 e2 e3
  have hA1 : w 0 = oA a o.1 o.2.1 o.2.2 l.1 l.2 := (hs 0 (by omega)).trans h.A
  have hl : ldg X a w (fdQ d) := ⟨pm', D', e1, fun i hi => by have hm := (svL_mem (getD_mem hi)).1; rw [e2 i hi]; exact ⟨(h2 _ hm).1, by show _ * 3 / 4 = _ * 3 / 4; rw [(h2 _ hm).2]⟩, e3⟩
  refine w_aload_n d_A_period_7 rfl ?_
  refine w_getf g_A_51 d_A_period_8 hA1 rfl (by decide) ?_
  refine w_getf g_A_206 d_A_period_11 e1.1 rfl (by decide) ?_
  exact w_iret d_A_period_14 rfl (⟨_, rfl, rfl, h.part (L := List.range' 16 58) (fun q hq => hs q (by have := nr hq; omega)) (Or.inl ⟨by decide, rfl, rfl⟩) (Or.inl ⟨by decide, by decide, by decide, rfl⟩) (Or.inl ⟨by decide, by decide, by decide, by decide, rfl⟩) (Or.inl ⟨by decide, by decide, by decide⟩) (Or.inl ⟨by decide, by decide⟩) (Or.inl ⟨by decide, by decide, by decide, rfl⟩) (Or.inr hl) (by decide) (Or.inl ⟨by decide, by decide, rfl⟩) (Or.inl ⟨by decide, by decide, rfl⟩), sameA_r hs (by omega)⟩)
-- what measuring keeps
theorem cls.msr (h : cls X a c t k o l p d b r) {w : Nat → va_E} (h1 : stA X a w) (h2 : ldg X a w d) (hs : ∀ p, (p < 8 ∨ 73 < p ∨ (10 < p ∧ p < 18)) → w p = c p) : cls X a w t k o l p d b r :=
  h.part (L := [8, 9, 10] ++ List.range' 18 56) (fun q hq => hs q (by simp only [List.mem_append, not_or] at hq; have h1 := nr hq.2; have h2 := hq.1; simp at h2; omega)) (Or.inl ⟨by decide, rfl, rfl⟩) (Or.inl ⟨by decide, by decide, by decide, rfl⟩) (Or.inl ⟨by decide, by decide, by decide, by decide, rfl⟩) (Or.inr h1) (Or.inl ⟨by decide, by decide⟩) (Or.inl ⟨by decide, by decide, by decide, rfl⟩) (Or.inr h2) (by decide) (Or.inl ⟨by decide, by decide, rfl⟩) (Or.inl ⟨by decide, by decide, rfl⟩)
theorem a_choose (h : cls X a c t k o l p d b r) (ok : okQ n t k o l p d b r) : GW X a m_A_choose 6 137 0 0 0 (lv_args 0 [.ref (a 0)]) [] c (pI (fun v w => v = nI (bstQ t d o.2.2) ∧ cls X a w t k o l p d b r ∧ sameA c w)) := by
  obtain ⟨pm, D, hL, h2, h3⟩ := h.D
  have hrt := liv_le t ok.1
  refine w_aload_n d_A_choose_0 rfl ?_
  refine w_getf g_A_60 d_A_choose_1 h.A rfl (by decide) ?_
  refine w_vV [] c_A_241 d_A_choose_4 rfl h.O (by decide) (v_measure ok.1 hrt ok.2.2.2.2.2.1.1 h.T h.V h.H h.S h.O hL) (fun w hw => ?_) rfl rfl (gq rfl) (gq rfl) (gq rfl) (gq rfl) (gq rfl) (gq rfl)
  obtain ⟨e1, e2, e3, hs⟩ := hw
  have hA1 : w 0 = oA a o.1 o.2.1 o.2.2 l.1 l.2 := (hs 0 (by omega)).trans h.A
  have hT1 : w 1 = oT a t.1 (liv t) := (hs 1 (by omega)).trans h.T
  have hO1 : w 74 = oV a := (hs 74 (by omega)).trans h.O
  refine w_aload_n d_A_choose_7 rfl ?_
  refine w_getf g_A_60 d_A_choose_8 hA1 rfl (by decide) ?_
  refine w_aload_n d_A_choose_11 rfl ?_
  refine w_getf g_A_85 d_A_choose_12 hA1 rfl (by decide) ?_
  refine w_vI [_] c_A_243 d_A_choose_15 rfl hO1 (by decide) (v_bestSet (bd := o.2.2) hrt ok.2.2.2.2.2.1.1 ok.2.2.1.2.2 hT1 hO1 e2 e3) (fun x w hw => ?_) rfl rfl (gq rfl) (gq rfl) (gq rfl) (gq rfl) (gq rfl) (gq rfl)
  obtain ⟨rfl, rfl⟩ := hw
  rw [set_cong h2]
  exact w_iret d_A_choose_18 rfl (⟨_, rfl, rfl, h.msr e1 ⟨pm, D, e2, h2, h3⟩ hs, fun q hq => hs q (by omega)⟩)
theorem a_costOf (hX : X.l.stackTraces = false) (h : cls X a c t k o l p d b r) (ok : okQ n t k o l p d b r) {x : Int32} : GW X a m_A_costOf 6 137 1 6 0 (lv_args 0 [.ref (a 0), .int x]) [] c (pJT (fun v w => ∃ m, (m < 512 ∧ x = nI m) ∧ v = setQ t d m ∧ cls X a w t k o l p d b r ∧ sameA c w) (fun e w => e = 0 ∧ ¬ (∃ m, m < 512 ∧ x = nI m) ∧ c = w)) := by
  obtain ⟨pm, D, hL, h2, h3⟩ := h.D
  have hrt := liv_le t ok.1
  refine w_iload_n d_A_costOf_0 rfl ?_
  refine w_if_lt 11 d_A_costOf_1 (by decide) (fun h1 => ?_) (fun h1 => ?_)
  · -- taken
    exact w_throw hX (k := 0) (tx := "the set is not 0 .. 511") (by decide) rfl rfl w_546 (by decide) d_A_costOf_11 d_A_costOf_14 (Or.inl d_A_costOf_15) d_A_costOf_17 d_A_costOf_20 (gq rfl) (gq rfl) (gq rfl) (gq rfl) (gq rfl) (Or.inr ⟨0, rfl, rfl, fun z => by obtain ⟨m, hm, rfl⟩ := z; exact nI_n0 (by omega) h1, rfl⟩)
  · -- not taken
    refine w_iload_n d_A_costOf_4 rfl ?_
    refine w_sipush 512 d_A_costOf_5 (by decide) ?_
    refine w_icmp_lt 21 d_A_costOf_8 (by decide) (fun h5 => ?_) (fun h5 => ?_)
    · -- taken
      obtain ⟨m, hm, rfl⟩ := nn_lt (n := 512) h1 h5 (by decide)
      refine w_aload_n d_A_costOf_21 rfl ?_
      refine w_getf g_A_60 d_A_costOf_22 h.A rfl (by decide) ?_
      refine w_vV [] c_A_241 d_A_costOf_25 rfl h.O (by decide) (v_measure ok.1 hrt ok.2.2.2.2.2.1.1 h.T h.V h.H h.S h.O hL) (fun w hw => ?_) rfl rfl (gq rfl) (gq rfl) (gq rfl) (gq rfl) (gq rfl) (gq rfl)
      obtain ⟨e1, e2, e3, hs⟩ := hw
      have hA1 : w 0 = oA a o.1 o.2.1 o.2.2 l.1 l.2 := (hs 0 (by omega)).trans h.A
      have hT1 : w 1 = oT a t.1 (liv t) := (hs 1 (by omega)).trans h.T
      have hO1 : w 74 = oV a := (hs 74 (by omega)).trans h.O
      refine w_aload_n d_A_costOf_28 rfl ?_
      refine w_getf g_A_60 d_A_costOf_29 hA1 rfl (by decide) ?_
      refine w_iload_n d_A_costOf_32 rfl ?_
      refine w_vJ [_] c_A_248 d_A_costOf_33 rfl hO1 (by decide) (v_setCost (m := m) hrt ok.2.2.2.2.2.1.1 hm hT1 hO1 e2 e3) (fun x w hw => ?_) rfl rfl (gq rfl) (gq rfl) (gq rfl) (gq rfl) (gq rfl) (gq rfl)
      obtain ⟨rfl, rfl⟩ := hw
      rw [set_cong h2]
      exact w_lret d_A_costOf_36 rfl (Or.inl ⟨_, rfl, m, ⟨hm, rfl⟩, rfl, h.msr e1 ⟨pm, D, e2, h2, h3⟩ hs, fun q hq => hs q (by omega)⟩)
    · -- not taken
      exact w_throw hX (k := 0) (tx := "the set is not 0 .. 511") (by decide) rfl rfl w_546 (by decide) d_A_costOf_11 d_A_costOf_14 (Or.inl d_A_costOf_15) d_A_costOf_17 d_A_costOf_20 (gq rfl) (gq rfl) (gq rfl) (gq rfl) (gq rfl) (Or.inr ⟨0, rfl, rfl, fun z => by obtain ⟨m, hm, rfl⟩ := z; exact h5 (nI_lt (b := 512) hm (by decide)), rfl⟩)
end PC
