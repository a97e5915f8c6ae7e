/-! SelfArranger: the private parts of ask -/
abbrev oA (a : Nat → Nat) (oc : Int32) (rl bp : Nat) (lw : Option Nat) (lc : Int32) : va_E := .inr (0, [.ref (a 1), .ref (a 4), .ref (a 8), .ref (a 11), .ref (a 13), .ref (a 16), .ref (a 74), .ref (a 75), .ref (a 77), .int oc, .int (nI rl), .int (nI bp), .int (oI lw), .int lc])
-- touched pages: of an index (or the heap), level, place
abbrev TP : Type := Option Nat × Nat × Nat
def tchL (nF : Nat) (L : List TP) (P : PS) : PS := L.foldl (fun P t => tchP nF (nI (pgN t.1 t.2.1 t.2.2)) P) P
theorem tchP_lt {nF : Nat} {p : Int32} {P : PS} (h : P.2.2.1 < nF) : (tchP nF p P).2.2.1 < nF := by
  unfold tchP
  split
  · exact h
  · exact nxH_lt (by omega)
theorem tchL_lt {nF : Nat} : ∀ {L : List TP} {P : PS}, P.2.2.1 < nF → (tchL nF L P).2.2.1 < nF
  | [], P, h => h
  | t :: L, P, h => by
    show (tchL nF L (tchP nF _ P)).2.2.1 < nF
    exact tchL_lt (tchP_lt h)
theorem tchL_app {nF : Nat} {L M : List TP} {P : PS} : tchL nF (L ++ M) P = tchL nF M (tchL nF L P) := by simp [tchL]
def heapT (n : Nat) : List TP := (List.range n).map (fun p => (none, 0, p))
-- from the root down to the node above the leaf
def downT (i leaf : Nat) : Nat → List TP
  | 0 => []
  | l + 1 => (some i, l + 1, leaf / 4 ^ (l + 1)) :: downT i leaf l
def leafT (i leaf n : Nat) : List TP := (List.range n).map (fun k => (some i, 0, leaf + k))
def rowsT (l : List Nat) : List TP := l.map (fun r => (none, 0, r / 4))
def flf (bf n : Nat) : Nat := if bf / 4 < leavesOf n then bf / 4 else leavesOf n - 1
section SY
variable {X : gX} {a : Nat → Nat} {c : Nat → va_E} {ins rt : Nat} {v h : Nat → Int32} {K F T : Nat → Int32} {nF : Nat} {P : PS} {s : Nat → Int32} {bl : Option Nat} {hd sd : Nat} {oc : Int32} {rl bp : Nat} {lw : Option Nat} {lc : Int32}
theorem a_take {hp0 : Int32} {g0 : Nat → Int32} (hA : c 0 = oA a oc rl bp lw lc) (hi : ins ≤ 64) (hrt : rt ≤ 64) (hT : c 1 = oT a ins rt) (hV : c 2 = aI X 192 v) (hH : c 3 = aZ X 64 h) (hC : cnd X a c 4 K F T) (hS : stA X a c) (hW : c 11 = oW a 11 hp0) (hG : c 12 = aI X 9 g0) (hB : c 75 = oB a bl hd sd) (hs : c 76 = aI X 9 s) :
    GW X a m_A_takeCheapestWay 5 115 0 0 0 (lv_args 0 [.ref (a 0)]) [] c (pV (fun w => w 0 = oA a oc rl bp (wyGo (costX h v K F T ins rt) (nI (fours ins)) (rdyN s 9) 9) (wyV (costX h v K F T ins rt) (nI (fours ins)) (wyGo (costX h v K F T ins rt) (nI (fours ins)) (rdyN s 9) 9)) ∧ stA X a w ∧ (∃ hp g, w 11 = oW a 11 hp ∧ w 12 = aI X 9 g) ∧ same c w [0, 8, 9, 10, 11, 12])) := by
  refine w_aload_n d_A_takeCheapestWay_0 rfl ?_
  refine w_getf g_A_35 d_A_takeCheapestWay_1 hA rfl (by decide) ?_
  refine w_aload_n d_A_takeCheapestWay_4 rfl ?_
  refine w_getf g_A_12 d_A_takeCheapestWay_5 hA rfl (by decide) ?_
  refine w_aload_n d_A_takeCheapestWay_8 rfl ?_
  refine w_getf g_A_28 d_A_takeCheapestWay_9 hA rfl (by decide) ?_
  refine w_aload_n d_A_takeCheapestWay_12 rfl ?_
  refine w_getf g_A_19 d_A_takeCheapestWay_13 hA rfl (by decide) ?_
  refine w_vV [_, _, _] c_A_178 d_A_takeCheapestWay_16 rfl hW (by decide) (w_measure (qw := 11) (q := 4) hi hrt (by decide) (by decide) (by decide) (by decide) (by decide) hT hV hH hC hS hW hG) (fun w hw => ?_) rfl rfl (gq rfl) (gq rfl) (gq rfl) (gq rfl) (gq rfl) (gq rfl)
  obtain ⟨m1, ⟨g, m2, m3⟩, m4, m5⟩ := hw
  have hA1 : w 0 = oA a oc rl bp lw lc := (m5 0 (by decide)).trans hA
  have hB1 : w 75 = oB a bl hd sd := (m5 75 (by decide)).trans hB
  obtain ⟨e1, e2⟩ := wyGo_cong (g := g) (hp := nI (fours ins)) (m := rdyN s 9) m3 9 (Nat.le_refl _)
  refine w_aload_n d_A_takeCheapestWay_19 rfl ?_
  refine w_aload_n d_A_takeCheapestWay_20 rfl ?_
  refine w_getf g_A_35 d_A_takeCheapestWay_21 hA1 rfl (by decide) ?_
  refine w_aload_n d_A_takeCheapestWay_24 rfl ?_
  refine w_getf g_A_67 d_A_takeCheapestWay_25 hA1 rfl (by decide) ?_
  refine w_vI [] c_A_225 d_A_takeCheapestWay_28 rfl hB1 (by decide) (b_readySet hB1 ((m5 76 (by decide)).trans hs)) (fun x w hw => ?_) rfl rfl (gq rfl) (gq rfl) (gq rfl) (gq rfl) (gq rfl) (gq rfl)
  obtain ⟨rfl, rfl⟩ := hw
  refine w_vI [_] c_A_292 d_A_takeCheapestWay_31 rfl m1 (by decide) (w_cheapest m1 m2 (by decide) (rdyN_512 s)) (fun x w hw => ?_) rfl rfl (gq rfl) (gq rfl) (gq rfl) (gq rfl) (gq rfl) (gq rfl)
  obtain ⟨rfl, rfl⟩ := hw
  rw [e1]
  refine w_putf p_A_88 d_A_takeCheapestWay_34 hA1 rfl rfl (gqL rfl) (by decide) ?_
  refine w_aload_n d_A_takeCheapestWay_37 rfl ?_
  refine w_aload_n d_A_takeCheapestWay_38 rfl ?_
  refine w_getf g_A_35 d_A_takeCheapestWay_39 va_s rfl (by decide) ?_
  refine w_aload_n d_A_takeCheapestWay_42 rfl ?_
  refine w_getf g_A_88 d_A_takeCheapestWay_43 va_s rfl (by decide) ?_
  have hat := w_at (X := X) (a := a) (c := va_up w 0 (oA a oc rl bp (wyGo (costX h v K F T ins rt) (nI (fours ins)) (rdyN s 9) 9) lc)) (qw := 11) (o := wyGo (costX h v K F T ins rt) (nI (fours ins)) (rdyN s 9) 9) (va_n (by decide) m1) (va_n (by decide) m2) (by decide) (fun j hj => wyGo_lt hj)
  refine w_vI [_] c_A_182 d_A_takeCheapestWay_46 rfl (va_n (by decide) m1) (by decide) (hat) (fun x w hw => ?_) rfl rfl (gq rfl) (gq rfl) (gq rfl) (gq rfl) (gq rfl) (gq rfl)
  obtain ⟨rfl, rfl⟩ := hw
  rw [e1] at e2
  rw [e2]
  obtain ⟨f0, g1, sc0, bf0, n0, fr, k1, k2, k3⟩ := m4
  refine w_putf p_A_164 d_A_takeCheapestWay_49 va_s rfl rfl (gqL rfl) (by decide) ?_
  exact w_vret d_A_takeCheapestWay_52 rfl (⟨rfl, rfl, ⟨f0, g1, sc0, bf0, n0, fr, k1, k2, k3⟩, ⟨nI (fours ins), g, m1, m2⟩, same_trans (same_trans (same_sub m5 (by simp)) (same_up (by simp))) (same_up (by simp))⟩)
theorem a_heapGo (hA : c 0 = oA a oc rl bp lw lc) (hn : nF ≤ 16) {n : Nat} (hn2 : n ≤ 16) : ∀ (d k : Nat) (c : Nat → va_E) (P : PS), k + d = n → c 0 = oA a oc rl bp lw lc → pol X a c nF P → P.2.2.1 < nF →
    GW X a m_A_touchHeap 3 66 0 0 10 [(0, .ref (a 0)), (1, .int (nI n)), (2, .int (nI k))] [] c (pV (fun w => pol X a w nF (tchL nF ((List.range d).map (fun i => (none, 0, k + i))) P) ∧ same c w [13, 14, 15])) := by
  intro d
  induction d with
  | zero =>
    intro k c P hk hA hP hh
    have e : k = n := by omega
    subst e
    refine w_iload_n d_A_touchHeap_10 rfl ?_
    refine w_iload_n d_A_touchHeap_11 rfl ?_
    refine w_icmp_ge 31 d_A_touchHeap_12 (by decide) (fun _ => ?_) (fun hn => absurd ((nI_leI (by omega) (by omega)).mpr (by omega)) hn)
    exact w_vret d_A_touchHeap_31 rfl (⟨rfl, hP, same_rf⟩)
  | succ d ih =>
    intro k c P hk hA hP hh
    have e : (List.range (d + 1)).map (fun i => ((none : Option Nat), 0, k + i)) = (none, 0, k) :: (List.range d).map (fun i => (none, 0, k + 1 + i)) := by
      rw [List.range_succ_eq_map, List.map_cons, List.map_map]
      congr 1
      apply List.map_congr_left
      intro i _
      simp only [Function.comp, Nat.succ_eq_add_one]
      rw [show k + (i + 1) = k + 1 + i by omega]
    rw [e]
    refine w_iload_n d_A_touchHeap_10 rfl ?_
    refine w_iload_n d_A_touchHeap_11 rfl ?_
    refine w_icmp_ge 31 d_A_touchHeap_12 (by decide) (fun hn => absurd hn (fun z => absurd ((nI_leI (by omega) (by omega)).mp z) (by omega))) (fun _ => ?_)
    refine w_aload_n d_A_touchHeap_15 rfl ?_
    refine w_getf g_A_44 d_A_touchHeap_16 hA rfl (by decide) ?_
    refine w_iconst (-1) d_A_touchHeap_19 (by decide) ?_
    refine w_iconst 0 d_A_touchHeap_20 (by decide) ?_
    refine w_iload_n d_A_touchHeap_21 rfl ?_
    refine w_vV [_, _, _] c_A_307 d_A_touchHeap_22 rfl hP.1 (by decide) (p_touch (o := none) (l := 0) (pl := k) hP hn hh) (fun w hw => ?_) rfl rfl (gq rfl) (gq rfl) (gq rfl) (gq rfl) (gq rfl) (gq rfl)
    obtain ⟨h1, h2⟩ := hw
    first | refine w_iinc _ d_A_touchHeap_25 rfl (nIinc _) (by decide) ?_ | refine w_iinc _ d_A_touchHeap_25 rfl rfl (by decide) ?_
    refine w_goto 10 d_A_touchHeap_28 (by decide) ?_
    refine w_post (fun r w' hw' => ?_) (ih (k + 1) w _ (by omega) ((h2 0 (by decide)).trans hA) h1 (tchP_lt hh))
    exact ⟨hw'.1, hw'.2.1, same_trans h2 hw'.2.2⟩
theorem a_touchHeap (hA : c 0 = oA a oc rl bp lw lc) (hT : c 1 = oT a ins rt) (hi : ins ≤ 64) (hn : nF ≤ 16) (hP : pol X a c nF P) (hh : P.2.2.1 < nF) : GW X a m_A_touchHeap 3 66 0 0 0 (lv_args 0 [.ref (a 0)]) [] c (pV (fun w => pol X a w nF (tchL nF (heapT (fours ins)) P) ∧ same c w [13, 14, 15])) := by
  have h16 : fours ins ≤ 16 := by unfold fours; omega
  have key := a_heapGo (X := X) hA hn h16 (fours ins) 0 c P (by omega) hA hP hh
  have e : (List.range (fours ins)).map (fun i => ((none : Option Nat), 0, 0 + i)) = heapT (fours ins) := by simp [heapT]
  rw [e] at key
  refine w_aload_n d_A_touchHeap_0 rfl ?_
  refine w_getf g_A_12 d_A_touchHeap_1 hA rfl (by decide) ?_
  refine w_vI [] c_A_304 d_A_touchHeap_4 rfl hT (by decide) (t_heapPages hT hi) (fun x w hw => ?_) rfl rfl (gq rfl) (gq rfl) (gq rfl) (gq rfl) (gq rfl) (gq rfl)
  obtain ⟨rfl, rfl⟩ := hw
  refine w_istore_n d_A_touchHeap_7 (by decide) ?_
  refine w_iconst 0 d_A_touchHeap_8 (by decide) ?_
  refine w_istore_n d_A_touchHeap_9 (by decide) ?_
  exact key
theorem a_ndGo {leaf lv : Nat} (hl : leaf ≤ 64) (hv : lv ≤ 3) : ∀ (d k : Nat), k + d = lv → GW X a m_A_nodeAbove 0 0 0 0 4 [(0, .int (nI leaf)), (1, .int (nI lv)), (2, .int (nI (leaf / 4 ^ k))), (3, .int (nI k))] [] c (pI (eI (nI (leaf / 4 ^ lv)) c)) := by
  intro d
  induction d with
  | zero =>
    intro k hk
    have e : k = lv := by omega
    subst e
    refine w_iload_n d_A_nodeAbove_4 rfl ?_
    refine w_iload_n d_A_nodeAbove_5 rfl ?_
    refine w_icmp_ge 19 d_A_nodeAbove_6 (by decide) (fun _ => ?_) (fun hn => absurd ((nI_leI (by omega) (by omega)).mpr (by omega)) hn)
    refine w_iload_n d_A_nodeAbove_19 rfl ?_
    exact w_iret d_A_nodeAbove_20 rfl (⟨_, rfl, rfl, rfl⟩)
  | succ d ih =>
    intro k hk
    have key := ih (k + 1) (by omega)
    have hd : leaf / 4 ^ k ≤ 64 := Nat.le_trans (Nat.div_le_self _ _) hl
    have e : nI (leaf / 4 ^ k) / 4 = nI (leaf / 4 ^ (k + 1)) := by rw [nI_div4 (by omega), Nat.div_div_eq_div_mul, Nat.pow_succ]
    refine w_iload_n d_A_nodeAbove_4 rfl ?_
    refine w_iload_n d_A_nodeAbove_5 rfl ?_
    refine w_icmp_ge 19 d_A_nodeAbove_6 (by decide) (fun hn => absurd hn (fun z => absurd ((nI_leI (by omega) (by omega)).mp z) (by omega))) (fun _ => ?_)
    refine w_iload_n d_A_nodeAbove_9 rfl ?_
    refine w_iconst 4 d_A_nodeAbove_10 (by decide) ?_
    refine w_idiv d_A_nodeAbove_11 (by decide) ?_
    rw [e]
    refine w_istore_n d_A_nodeAbove_12 (by decide) ?_
    first | refine w_iinc _ d_A_nodeAbove_13 rfl (nIinc _) (by decide) ?_ | refine w_iinc _ d_A_nodeAbove_13 rfl rfl (by decide) ?_
    refine w_goto 4 d_A_nodeAbove_16 (by decide) ?_
    exact key
theorem a_nodeAbove {leaf lv : Nat} (hl : leaf ≤ 64) (hv : lv ≤ 3) : GW X a m_A_nodeAbove 0 0 0 0 0 (lv_args 0 [.int (nI leaf), .int (nI lv)]) [] c (pI (eI (nI (leaf / 4 ^ lv)) c)) := by
  have key := a_ndGo (X := X) (a := a) (c := c) hl hv lv 0 (by omega)
  rw [show leaf / 4 ^ 0 = leaf by simp] at key
  refine w_iload_n d_A_nodeAbove_0 rfl ?_
  refine w_istore_n d_A_nodeAbove_1 (by decide) ?_
  refine w_iconst 0 d_A_nodeAbove_2 (by decide) ?_
  refine w_istore_n d_A_nodeAbove_3 (by decide) ?_
  exact key
theorem a_dnGo {i leaf : Nat} (hl : leaf ≤ 64) (hn : nF ≤ 16) : ∀ (l : Nat) (c : Nat → va_E) (P : PS), l ≤ 3 → c 0 = oA a oc rl bp lw lc → pol X a c nF P → P.2.2.1 < nF → ∀ {Post : gO → (Nat → va_E) → Prop},
    (∀ w P', P' = tchL nF (downT i leaf l) P → pol X a w nF P' → same c w [13, 14, 15] → GW X a m_A_touchIndex 5 116 0 0 53 [(0, .ref (a 0)), (1, .int (nI i)), (2, .int (nI leaf))] [] w Post) →
    GW X a m_A_touchIndex 5 116 0 0 28 [(0, .ref (a 0)), (1, .int (nI i)), (2, .int (nI leaf)), (3, .int (nI l))] [] c Post := by
  intro l
  induction l with
  | zero =>
    intro c P hl3 hA hP hh Post next
    refine w_iload_n d_A_touchIndex_28 rfl ?_
    refine w_iconst 1 d_A_touchIndex_29 (by decide) ?_
    refine w_icmp_lt 53 d_A_touchIndex_30 (by decide) (fun _ => ?_) (fun hn => absurd ((show (nI 0) < 1 by decide)) hn)
    exact w_sel [0, 1, 2] rfl (next c P rfl hP same_rf)
  | succ l ih =>
    intro c P hl3 hA hP hh Post next
    refine w_iload_n d_A_touchIndex_28 rfl ?_
    refine w_iconst 1 d_A_touchIndex_29 (by decide) ?_
    refine w_icmp_lt 53 d_A_touchIndex_30 (by decide) (fun hn => absurd hn (fun z => absurd ((nI_ltI (b := 1) (by omega) (by decide)).mp z) (by omega))) (fun _ => ?_)
    refine w_aload_n d_A_touchIndex_33 rfl ?_
    refine w_getf g_A_44 d_A_touchIndex_34 hA rfl (by decide) ?_
    refine w_iload_n d_A_touchIndex_37 rfl ?_
    refine w_iload_n d_A_touchIndex_38 rfl ?_
    refine w_iload_n d_A_touchIndex_39 rfl ?_
    refine w_iload_n d_A_touchIndex_40 rfl ?_
    refine w_sI [_, _] c_A_317 d_A_touchIndex_41 (a_nodeAbove hl hl3) (fun x w hw => ?_) rfl rfl (gq rfl) (gq rfl) (gq rfl) (gq rfl) (gq rfl) (gq rfl)
    obtain ⟨rfl, rfl⟩ := hw
    refine w_vV [_, _, _] c_A_307 d_A_touchIndex_44 rfl hP.1 (by decide) (p_touch (o := some i) (l := l + 1) (pl := leaf / 4 ^ (l + 1)) hP hn hh) (fun w hw => ?_) rfl rfl (gq rfl) (gq rfl) (gq rfl) (gq rfl) (gq rfl) (gq rfl)
    obtain ⟨h1, h2⟩ := hw
    first | refine w_iinc _ d_A_touchIndex_47 rfl (nIdec _) (by decide) ?_ | refine w_iinc _ d_A_touchIndex_47 rfl rfl (by decide) ?_
    refine w_goto 28 d_A_touchIndex_50 (by decide) ?_
    exact ih w _ (by omega) ((h2 0 (by decide)).trans hA) h1 (tchP_lt hh) (fun w' P' e q1 q2 => next w' P' e q1 (same_trans h2 q2))
theorem a_lfGo {i leaf n : Nat} (hl : leaf ≤ 64) (hn : nF ≤ 16) (hn2 : n ≤ 64) : ∀ (d k : Nat) (c : Nat → va_E) (P : PS), k + d = n → c 0 = oA a oc rl bp lw lc → pol X a c nF P → P.2.2.1 < nF → ∀ {Post : gO → (Nat → va_E) → Prop},
    (∀ w P', P' = tchL nF ((List.range d).map (fun j => (some i, 0, leaf + (k + j)))) P → pol X a w nF P' → same c w [13, 14, 15] → GW X a m_A_touchIndex 5 116 0 0 89 [(0, .ref (a 0)), (1, .int (nI i)), (2, .int (nI leaf)), (3, .int (nI n))] [] w Post) →
    GW X a m_A_touchIndex 5 116 0 0 64 [(0, .ref (a 0)), (1, .int (nI i)), (2, .int (nI leaf)), (3, .int (nI n)), (4, .int (nI k))] [] c Post := by
  intro d
  induction d with
  | zero =>
    intro k c P hk hA hP hh Post next
    have e : k = n := by omega
    subst e
    refine w_iload d_A_touchIndex_64 rfl ?_
    refine w_iload_n d_A_touchIndex_66 rfl ?_
    refine w_icmp_ge 89 d_A_touchIndex_67 (by decide) (fun _ => ?_) (fun hn => absurd ((nI_leI (by omega) (by omega)).mpr (by omega)) hn)
    exact w_sel [0, 1, 2, 3] rfl (next c P rfl hP same_rf)
  | succ d ih =>
    intro k c P hk hA hP hh Post next
    have e : (List.range (d + 1)).map (fun j => (some i, 0, leaf + (k + j))) = (some i, 0, leaf + k) :: (List.range d).map (fun j => (some i, 0, leaf + (k + 1 + j))) := by
      rw [List.range_succ_eq_map, List.map_cons, List.map_map]
      congr 1
      apply List.map_congr_left
      intro j _
      simp only [Function.comp, Nat.succ_eq_add_one]
      rw [show k + (j + 1) = k + 1 + j by omega]
    refine w_iload d_A_touchIndex_64 rfl ?_
    refine w_iload_n d_A_touchIndex_66 rfl ?_
    refine w_icmp_ge 89 d_A_touchIndex_67 (by decide) (fun hn => absurd hn (fun z => absurd ((nI_leI (by omega) (by omega)).mp z) (by omega))) (fun _ => ?_)
    refine w_aload_n d_A_touchIndex_70 rfl ?_
    refine w_getf g_A_44 d_A_touchIndex_71 hA rfl (by decide) ?_
    refine w_iload_n d_A_touchIndex_74 rfl ?_
    refine w_iconst 0 d_A_touchIndex_75 (by decide) ?_
    refine w_iload_n d_A_touchIndex_76 rfl ?_
    refine w_iload d_A_touchIndex_77 rfl ?_
    refine w_iadd d_A_touchIndex_79 ?_
    rw [nI_add]
    refine w_vV [_, _, _] c_A_307 d_A_touchIndex_80 rfl hP.1 (by decide) (p_touch (o := some i) (l := 0) (pl := leaf + k) hP hn hh) (fun w hw => ?_) rfl rfl (gq rfl) (gq rfl) (gq rfl) (gq rfl) (gq rfl) (gq rfl)
    obtain ⟨h1, h2⟩ := hw
    first | refine w_iinc _ d_A_touchIndex_83 rfl (nIinc _) (by decide) ?_ | refine w_iinc _ d_A_touchIndex_83 rfl rfl (by decide) ?_
    refine w_goto 64 d_A_touchIndex_86 (by decide) ?_
    exact ih (k + 1) w _ (by omega) ((h2 0 (by decide)).trans hA) h1 (tchP_lt hh) (fun w' P' q0 q1 q2 => next w' P' (by rw [e]; exact q0) q1 (same_trans h2 q2))
theorem a_rwGo {f g : Int32} {sc : Bool} {bf i leaf n : Nat} {l : List Nat} (hn : nF ≤ 16) (hl64 : ∀ x ∈ l, x < 64) (hll : l.length ≤ 64) : ∀ (d k : Nat) (c : Nat → va_E) (P : PS), k + d = l.length → c 0 = oA a oc rl bp lw lc → stL X a c f g sc bf l → pol X a c nF P → P.2.2.1 < nF →
    GW X a m_A_touchIndex 5 116 0 0 99 [(0, .ref (a 0)), (1, .int (nI i)), (2, .int (nI leaf)), (3, .int (nI n)), (4, .int (nI k))] [] c (pV (fun w => pol X a w nF (tchL nF (rowsT (l.drop k)) P) ∧ same c w [13, 14, 15])) := by
  intro d
  induction d with
  | zero =>
    intro k c P hk hA hL hP hh
    rw [List.drop_of_length_le (by omega)]
    refine w_iload d_A_touchIndex_99 rfl ?_
    refine w_aload_n d_A_touchIndex_101 rfl ?_
    refine w_getf g_A_28 d_A_touchIndex_102 hA rfl (by decide) ?_
    refine w_getf g_A_326 d_A_touchIndex_105 hL.1 rfl (by decide) ?_
    refine w_getf g_A_152 d_A_touchIndex_108 hL.2.1 rfl (by decide) ?_
    refine w_icmp_ge 144 d_A_touchIndex_111 (by decide) (fun _ => ?_) (fun hn => absurd ((nI_leI (by omega) (by omega)).mpr (by omega)) hn)
    exact w_vret d_A_touchIndex_144 rfl (⟨rfl, hP, same_rf⟩)
  | succ d ih =>
    intro k c P hk hA hL hP hh
    have hkl : k < l.length := by omega
    have hL0 := hL
    obtain ⟨l1, l2, fr, l3, l4⟩ := hL
    have hfk : fr k = nI (l.getD k 0) := by have := lay_get l4 hkl; rwa [Nat.zero_add] at this
    have hx := hl64 _ (getD_mem hkl)
    rw [drop_cons hkl]
    refine w_iload d_A_touchIndex_99 rfl ?_
    refine w_aload_n d_A_touchIndex_101 rfl ?_
    refine w_getf g_A_28 d_A_touchIndex_102 hA rfl (by decide) ?_
    refine w_getf g_A_326 d_A_touchIndex_105 l1 rfl (by decide) ?_
    refine w_getf g_A_152 d_A_touchIndex_108 l2 rfl (by decide) ?_
    refine w_icmp_ge 144 d_A_touchIndex_111 (by decide) (fun hn => absurd hn (fun z => absurd ((nI_leI (by omega) (by omega)).mp z) (by omega))) (fun _ => ?_)
    refine w_aload_n d_A_touchIndex_114 rfl ?_
    refine w_getf g_A_44 d_A_touchIndex_115 hA rfl (by decide) ?_
    refine w_iconst (-1) d_A_touchIndex_118 (by decide) ?_
    refine w_iconst 0 d_A_touchIndex_119 (by decide) ?_
    refine w_aload_n d_A_touchIndex_120 rfl ?_
    refine w_getf g_A_28 d_A_touchIndex_121 hA rfl (by decide) ?_
    refine w_getf g_A_326 d_A_touchIndex_124 l1 rfl (by decide) ?_
    refine w_getf g_A_160 d_A_touchIndex_127 l2 rfl (by decide) ?_
    refine w_iload d_A_touchIndex_130 rfl ?_
    refine w_iald d_A_touchIndex_132 l3 rfl (by omega) (by decide) (by decide) ?_
    rw [hfk]
    refine w_iconst 4 d_A_touchIndex_133 (by decide) ?_
    refine w_idiv d_A_touchIndex_134 (by decide) ?_
    rw [nI_div4 (by omega)]
    refine w_vV [_, _, _] c_A_307 d_A_touchIndex_135 rfl hP.1 (by decide) (p_touch (o := none) (l := 0) (pl := l.getD k 0 / 4) hP hn hh) (fun w hw => ?_) rfl rfl (gq rfl) (gq rfl) (gq rfl) (gq rfl) (gq rfl) (gq rfl)
    obtain ⟨h1, h2⟩ := hw
    first | refine w_iinc _ d_A_touchIndex_138 rfl (nIinc _) (by decide) ?_ | refine w_iinc _ d_A_touchIndex_138 rfl rfl (by decide) ?_
    refine w_goto 99 d_A_touchIndex_141 (by decide) ?_
    refine w_post (fun r w' hw' => ?_) (ih (k + 1) w _ (by omega) ((h2 0 (by decide)).trans hA) ⟨(h2 8 (by decide)).trans l1, (h2 9 (by decide)).trans l2, fr, (h2 10 (by decide)).trans l3, l4⟩ h1 (tchP_lt hh))
    exact ⟨hw'.1, hw'.2.1, same_trans h2 hw'.2.2⟩
end SY
