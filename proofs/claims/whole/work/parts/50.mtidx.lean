/-! The model: touchIndex -/
def mPk (X : gX) (c : Nat → va_E) (p : QP) : Prop := mP X c p ∧ 2 ≤ p.1 ∧ p.1 ≤ 16 ∧ p.2.2.2.1 < p.1 ∧ pOk p.1 p.2
theorem pOk_t {nF : Nat} {P : PS} {ob : Option Nat} {lv pl : Nat} (h : pOk nF P) (ho : okO ob) (hl : lv < 4) (hp : pl < 16) : pOk nF (tchP nF (nI (pgN ob lv pl)) P) := by
  unfold tchP
  split
  · exact h
  · intro i hi
    show upd P.1 _ _ i = -1 ∨ _
    by_cases e : i = (ffGo nF nF P.2.1 P.2.2.1).2
    · rw [e, pk_us]
      exact Or.inr ⟨ob, lv, pl, pk_us, ho, hl, hp⟩
    · rw [pk_un e]
      rcases h i hi with z | ⟨o, l, p, z, z1⟩
      · exact Or.inl z
      · exact Or.inr ⟨o, l, p, (show upd P.1 _ _ i = _ by rw [pk_un e]; exact z), z1⟩
theorem pOk_L {nF : Nat} : ∀ {L : List TP} {P : PS}, pOk nF P → (∀ t ∈ L, okO t.1 ∧ t.2.1 < 4 ∧ t.2.2 < 16) → pOk nF (tchL nF L P)
  | [], P, h, _ => h
  | t :: L, P, h, hL => by
    have h1 := hL t List.mem_cons_self
    show pOk nF (tchL nF L (tchP nF _ P))
    exact pOk_L (pOk_t h h1.1 h1.2.1 h1.2.2) (fun u hu => hL u (List.mem_cons_of_mem _ hu))
abbrev tcL (p : QP) (L : List TP) : QP := (p.1, tchL p.1 L p.2)
theorem bgin (t : QT) (k : QC) (i : Nat) : bgQ t k i + (inQ t k i).length ≤ liv t := by
  have h1 : (sS t i).length = ((sS t i).filter (stB t.2.1 k.2.1 k.1 i)).length + ((sS t i).filter (fun x => !stB t.2.1 k.2.1 k.1 i x)).length := by
    rw [← List.length_append]
    obtain ⟨c1, c2⟩ := cut_bf t k i
    rw [← c1, ← c2, List.takeWhile_append_dropWhile]
  rw [sS_len, bf_len] at h1
  have h2 : (inQ t k i).length ≤ ((sS t i).filter (fun x => !stB t.2.1 k.2.1 k.1 i x)).length := by
    have h3 : (inQ t k i).length = ((sS t i).filter (stI t.2.1 k.1 k.2.1 k.2.2 i)).length := by
      unfold sS inQ inI
      rw [List.filter_reverse, List.length_reverse, srt_filter (gtv_swo _ _ _), srt_len (gtv_swo _ _ _)]
    have h4 : (sS t i).filter (stI t.2.1 k.1 k.2.1 k.2.2 i) = ((sS t i).filter (fun x => !stB t.2.1 k.2.1 k.1 i x)).filter (insB k.1 k.2.1 k.2.2 t.2.1 (nI (fN i)) (scol i) (secB k.1 i)) := by
      rw [List.filter_filter]
      refine List.filter_congr (fun x _ => ?_)
      rw [Bool.and_comm]
    rw [h3, h4]
    exact List.length_filter_le _ _
  show bfI t.2.2 t.2.1 k.1 k.2.1 t.1 i + (inQ t k i).length ≤ liv t
  omega
theorem leaf_lt {n bf cn : Nat} (h : bf + cn ≤ n) (hn : n ≤ 64) {j : Nat} (hj : j < lvT bf cn) : flf bf n + j < 16 := by
  have hl := leaves_le hn
  unfold flf
  unfold lvT at hj
  have hf : leavesOf n = if fours n = 0 then 1 else fours n := rfl
  unfold fours at hf
  split at hf <;> split at hj <;> split <;> omega
section MTI
variable {X : gX} {a : Nat → Nat} {m : QM} {t : QT} {k : QC} {o : QO} {l : QL} {d : QD} {b : QB} {an n q : Nat}
theorem m_touchK {p : QP} {ob : Option Nat} {lv pl : Nat} {c : Nat → va_E} (hM : c 79 = oM a m t o l p d b an) (hP : mPk X c p) (ho : okO ob) (hl : lv < 4) (hpl : pl < 16) :
    GW X a m_M_touch 0 0 0 0 0 (lv_args 0 [.ref (a 79), .int (nI (mof ob)), .int (nI lv), .int (nI pl)]) [] c (pV (fun w => w 79 = oM a m t o l (tcL p [(ob, lv, pl)]) d b an ∧ mPk X w (tcL p [(ob, lv, pl)]) ∧ same c w [79, 89, 90])) := by
  obtain ⟨h1, h2, h3, h4, h5⟩ := hP
  refine w_post (fun r w hw => ?_) (m_touch hM h1 ho hl hpl h2 h3 h4 h5)
  obtain ⟨q0, q1, q2, q3⟩ := hw
  exact ⟨q0, q1, ⟨q2, h2, h3, tchP_lt h4, pOk_t h5 ho hl hpl⟩, q3⟩
theorem tcL_app {p : QP} {L L' : List TP} : tcL p (L ++ L') = tcL (tcL p L) L' := by unfold tcL; rw [tchL_app]
theorem m_ndGo {i fl mn lvl : Nat} {c : Nat → va_E} (hl : fl ≤ 64) (hv : lvl ≤ 3) {Post : gO → (Nat → va_E) → Prop} (next : GW X a m_M_touchIndex 4 94 0 0 52 [(0, .ref (a 79)), (1, .int (nI i)), (2, .int (nI fl)), (3, .int (nI mn)), (4, .int (nI lvl)), (5, .int (nI (fl / 4 ^ lvl)))] [] c Post) :
    ∀ (e j : Nat), j + e = lvl → GW X a m_M_touchIndex 4 94 0 0 33 [(0, .ref (a 79)), (1, .int (nI i)), (2, .int (nI fl)), (3, .int (nI mn)), (4, .int (nI lvl)), (5, .int (nI (fl / 4 ^ j))), (6, .int (nI j))] [] c Post := by
  intro e
  induction e with
  | zero =>
    intro j hj
    have hjl : j = lvl := by omega
    subst hjl
    refine w_iload d_M_touchIndex_33 rfl ?_
    refine w_iload d_M_touchIndex_35 rfl ?_
    refine w_icmp_ge 52 d_M_touchIndex_37 (by decide) (fun _ => ?_) (fun hn => absurd ((Int32.le_refl _)) hn)
    exact w_sel [0, 1, 2, 3, 4, 5] rfl next
  | succ e ih =>
    intro j hj
    have hd : fl / 4 ^ j ≤ 64 := Nat.le_trans (Nat.div_le_self _ _) hl
    have e1 : nI (fl / 4 ^ j) / 4 = nI (fl / 4 ^ (j + 1)) := by rw [nI_div4 (by omega), Nat.div_div_eq_div_mul, Nat.pow_succ]
    have key := ih (j + 1) (by omega)
    refine w_iload d_M_touchIndex_33 rfl ?_
    refine w_iload d_M_touchIndex_35 rfl ?_
    refine w_icmp_ge 52 d_M_touchIndex_37 (by decide) (fun hn => absurd hn (fun z => absurd ((nI_leI (by omega) (by omega)).mp z) (by omega))) (fun _ => ?_)
    refine w_iload d_M_touchIndex_40 rfl ?_
    refine w_iconst 4 d_M_touchIndex_42 (by decide) ?_
    refine w_idiv d_M_touchIndex_43 (by decide) ?_
    rw [e1]
    refine w_istore d_M_touchIndex_44 (by decide) ?_
    first | refine w_iinc _ d_M_touchIndex_46 rfl (nIinc _) (by decide) ?_ | refine w_iinc _ d_M_touchIndex_46 rfl rfl (by decide) ?_
    refine w_goto 33 d_M_touchIndex_49 (by decide) ?_
    exact key
theorem m_dnGo {i fl mn : Nat} (hi : i < 9) (hfl : fl < 16) {c0 : Nat → va_E} {p0 : QP} {Post : gO → (Nat → va_E) → Prop} : ∀ (lvl : Nat) (c : Nat → va_E) (p : QP), lvl ≤ 3 → same c0 c [79, 89, 90] → c 79 = oM a m t o l p d b an → mPk X c p → tcL p (downT i fl lvl) = p0 →
    (∀ c', same c0 c' [79, 89, 90] → c' 79 = oM a m t o l p0 d b an → mPk X c' p0 → GW X a m_M_touchIndex 4 94 0 0 67 [(0, .ref (a 79)), (1, .int (nI i)), (2, .int (nI fl)), (3, .int (nI mn))] [] c' Post) →
    GW X a m_M_touchIndex 4 94 0 0 22 [(0, .ref (a 79)), (1, .int (nI i)), (2, .int (nI fl)), (3, .int (nI mn)), (4, .int (nI lvl))] [] c Post := by
  intro lvl
  induction lvl with
  | zero =>
    intro c p hl hs hM hP he next
    have he' : p = p0 := he
    subst he'
    refine w_iload d_M_touchIndex_22 rfl ?_
    refine w_if_le 67 d_M_touchIndex_24 (by decide) (fun _ => ?_) (fun hn => absurd ((by decide)) hn)
    exact w_sel [0, 1, 2, 3] rfl (next c hs hM hP)
  | succ lvl ih =>
    intro c p hl hs hM hP he next
    have key : GW X a m_M_touchIndex 4 94 0 0 52 [(0, .ref (a 79)), (1, .int (nI i)), (2, .int (nI fl)), (3, .int (nI mn)), (4, .int (nI (lvl + 1))), (5, .int (nI (fl / 4 ^ (lvl + 1))))] [] c Post := by
      refine w_aload_n d_M_touchIndex_52 rfl ?_
      refine w_iload_n d_M_touchIndex_53 rfl ?_
      refine w_iload d_M_touchIndex_54 rfl ?_
      refine w_iload d_M_touchIndex_56 rfl ?_
      refine w_vV [_, _, _] c_M_183 d_M_touchIndex_58 rfl hM (by decide) (m_touchK (ob := some i) hM hP (fun j hj => by cases hj; exact hi) (show lvl + 1 < 4 by omega) (Nat.lt_of_le_of_lt (Nat.div_le_self _ _) hfl)) (fun w hw => ?_) rfl rfl (gq rfl) (gq rfl) (gq rfl) (gq rfl) (gq rfl) (gq rfl)
      obtain ⟨w1, w2, w3⟩ := hw
      refine w_iinc ((nI lvl)) d_M_touchIndex_61 rfl (nIdec lvl) (by decide) ?_
      refine w_goto 22 d_M_touchIndex_64 (by decide) ?_
      exact w_sel [0, 1, 2, 3, 4] rfl (ih w _ (by omega) (same_trans hs w3) w1 w2 he next)
    have kk := m_ndGo (X := X) (a := a) (c := c) (i := i) (fl := fl) (mn := mn) (lvl := lvl + 1) (by omega) hl key (lvl + 1) 0 (by omega)
    rw [show fl / 4 ^ 0 = fl by simp] at kk
    refine w_iload d_M_touchIndex_22 rfl ?_
    refine w_if_le 67 d_M_touchIndex_24 (by decide) (fun hn => absurd hn (nI_nle (by omega) (by omega))) (fun _ => ?_)
    refine w_iload_n d_M_touchIndex_27 rfl ?_
    refine w_istore d_M_touchIndex_28 (by decide) ?_
    refine w_iconst 0 d_M_touchIndex_30 (by decide) ?_
    refine w_istore d_M_touchIndex_31 (by decide) ?_
    exact kk
theorem m_lfGo {i fl mn : Nat} (hi : i < 9) (hfl : ∀ j, j < mn → fl + j < 16) (hmn : mn ≤ 64) {c0 : Nat → va_E} {p : QP} {Post : gO → (Nat → va_E) → Prop} (next : ∀ c', same c0 c' [79, 89, 90] → c' 79 = oM a m t o l (tcL p (leafT i fl mn)) d b an → mPk X c' (tcL p (leafT i fl mn)) → GW X a m_M_touchIndex 4 94 0 0 92 [(0, .ref (a 79)), (1, .int (nI i)), (2, .int (nI fl)), (3, .int (nI mn))] [] c' Post) :
    ∀ (e j : Nat) (c : Nat → va_E), j + e = mn → same c0 c [79, 89, 90] → c 79 = oM a m t o l (tcL p (leafT i fl j)) d b an → mPk X c (tcL p (leafT i fl j)) → GW X a m_M_touchIndex 4 94 0 0 70 [(0, .ref (a 79)), (1, .int (nI i)), (2, .int (nI fl)), (3, .int (nI mn)), (4, .int (nI j))] [] c Post := by
  intro e
  induction e with
  | zero =>
    intro j c hj hs hM hP
    have hjm : j = mn := by omega
    subst hjm
    refine w_iload d_M_touchIndex_70 rfl ?_
    refine w_iload_n d_M_touchIndex_72 rfl ?_
    refine w_icmp_ge 92 d_M_touchIndex_73 (by decide) (fun _ => ?_) (fun hn => absurd ((Int32.le_refl _)) hn)
    exact w_sel [0, 1, 2, 3] rfl (next c hs hM hP)
  | succ e ih =>
    intro j c hj hs hM hP
    have hlf : leafT i fl (j + 1) = leafT i fl j ++ [(some i, 0, fl + j)] := by unfold leafT; rw [List.range_succ, List.map_append]; rfl
    refine w_iload d_M_touchIndex_70 rfl ?_
    refine w_iload_n d_M_touchIndex_72 rfl ?_
    refine w_icmp_ge 92 d_M_touchIndex_73 (by decide) (fun hn => absurd hn (fun z => absurd ((nI_leI (by omega) (by omega)).mp z) (by omega))) (fun _ => ?_)
    refine w_aload_n d_M_touchIndex_76 rfl ?_
    refine w_iload_n d_M_touchIndex_77 rfl ?_
    refine w_iconst 0 d_M_touchIndex_78 (by decide) ?_
    refine w_iload_n d_M_touchIndex_79 rfl ?_
    refine w_iload d_M_touchIndex_80 rfl ?_
    refine w_iadd d_M_touchIndex_82 ?_
    rw [nI_add]
    refine w_vV [_, _, _] c_M_183 d_M_touchIndex_83 rfl hM (by decide) (m_touchK (ob := some i) (lv := 0) hM hP (fun j hj => by cases hj; exact hi) (by decide) (hfl j (by omega))) (fun w hw => ?_) rfl rfl (gq rfl) (gq rfl) (gq rfl) (gq rfl) (gq rfl) (gq rfl)
    obtain ⟨w1, w2, w3⟩ := hw
    rw [← tcL_app, ← hlf] at w1 w2
    first | refine w_iinc _ d_M_touchIndex_86 rfl (nIinc _) (by decide) ?_ | refine w_iinc _ d_M_touchIndex_86 rfl rfl (by decide) ?_
    refine w_goto 70 d_M_touchIndex_89 (by decide) ?_
    exact ih (j + 1) w (by omega) (same_trans hs w3) w1 w2
theorem m_rwGo {i fl mn bf : Nat} {e0 : Int32} {sz : Nat} {fr : Nat → Int32} {S : List Nat} (hS : ∀ x ∈ S, x < 64) (hb : bf + S.length ≤ 64) (hlay : lay fr bf S) {c0 : Nat → va_E} {p : QP} :
    ∀ (e j : Nat) (c : Nat → va_E), j + e = S.length → same c0 c [79, 89, 90] → c 92 = aI X 64 fr → c 79 = oM a (e0, sz, bf, bf + S.length) t o l (tcL p (rowsT (S.take j))) d b an → mPk X c (tcL p (rowsT (S.take j))) →
      GW X a m_M_touchIndex 4 94 0 0 98 [(0, .ref (a 79)), (1, .int (nI i)), (2, .int (nI fl)), (3, .int (nI mn)), (4, .int (nI (bf + j)))] [] c (pV (fun w => w 79 = oM a (e0, sz, bf, bf + S.length) t o l (tcL p (rowsT S)) d b an ∧ mPk X w (tcL p (rowsT S)) ∧ same c0 w [79, 89, 90])) := by
  intro e
  induction e with
  | zero =>
    intro j c hj hs hE hM hP
    have hjm : j = S.length := by omega
    subst hjm
    rw [List.take_length] at hM hP
    refine w_iload d_M_touchIndex_98 rfl ?_
    refine w_aload_n d_M_touchIndex_100 rfl ?_
    refine w_getf g_M_150 d_M_touchIndex_101 hM rfl (by decide) ?_
    refine w_icmp_ge 129 d_M_touchIndex_104 (by decide) (fun _ => ?_) (fun hn => absurd ((Int32.le_refl _)) hn)
    exact w_vret d_M_touchIndex_129 rfl (⟨rfl, hM, hP, hs⟩)
  | succ e ih =>
    intro j c hj hs hE hM hP
    have hjl : j < S.length := by omega
    have hx := hS _ (getD_mem hjl)
    have hr : rowsT (S.take (j + 1)) = rowsT (S.take j) ++ [(none, 0, S.getD j 0 / 4)] := by unfold rowsT; rw [take_snoc hjl, List.map_append]; rfl
    refine w_iload d_M_touchIndex_98 rfl ?_
    refine w_aload_n d_M_touchIndex_100 rfl ?_
    refine w_getf g_M_150 d_M_touchIndex_101 hM rfl (by decide) ?_
    refine w_icmp_ge 129 d_M_touchIndex_104 (by decide) (fun hn => absurd hn (fun z => absurd ((nI_leI (a := bf + S.length) (b := bf + j) (by omega) (by omega)).mp z) (by omega))) (fun _ => ?_)
    refine w_aload_n d_M_touchIndex_107 rfl ?_
    refine w_bipush 9 d_M_touchIndex_108 (by decide) ?_
    refine w_iconst 0 d_M_touchIndex_110 (by decide) ?_
    refine w_aload_n d_M_touchIndex_111 rfl ?_
    refine w_getf g_M_63 d_M_touchIndex_112 hM rfl (by decide) ?_
    refine w_iload d_M_touchIndex_115 rfl ?_
    refine w_iald d_M_touchIndex_117 hE rfl (show bf + j < 64 by omega) (by decide) (by decide) ?_
    rw [hlay j hjl]
    refine w_iconst 4 d_M_touchIndex_118 (by decide) ?_
    refine w_idiv d_M_touchIndex_119 (by decide) ?_
    rw [nI_div4 (by omega)]
    refine w_vV [_, _, _] c_M_183 d_M_touchIndex_120 rfl hM (by decide) (m_touchK (ob := none) (lv := 0) (pl := S.getD j 0 / 4) hM hP (fun j hj => by cases hj) (by decide) (by omega)) (fun w hw => ?_) rfl rfl (gq rfl) (gq rfl) (gq rfl) (gq rfl) (gq rfl) (gq rfl)
    obtain ⟨w1, w2, w3⟩ := hw
    rw [← tcL_app, ← hr] at w1 w2
    first | refine w_iinc _ d_M_touchIndex_123 rfl (nIinc _) (by decide) ?_ | refine w_iinc _ d_M_touchIndex_123 rfl rfl (by decide) ?_
    refine w_goto 98 d_M_touchIndex_126 (by decide) ?_
    exact ih (j + 1) w (by omega) (same_trans hs w3) ((w3 92 (by decide)).trans hE) w1 w2
theorem m_touchIndex {i : Nat} {p : QP} {fr : Nat → Int32} {c : Nat → va_E} (hM : c 79 = oM a m t o l p d b an) (hQ : mq X c t 0 k) (hE : c 92 = aI X 64 fr) (hP : mPk X c p) (hk : kOk k.1 k.2.1 k.2.2) (ht : t.1 ≤ 64) (hi : i < 9) (hw : ¬ k.1 (fN i) = 0) :
    GW X a m_M_touchIndex 4 94 0 0 0 (lv_args 0 [.ref (a 79), .int (nI i)]) [] c (pV (fun w => (∃ sc, w 79 = oM a (m.1, sc) t o l (tcL p (idxT t.2.2 t.2.1 k.1 k.2.1 k.2.2 t.1 (liv t) i)) d b an) ∧ mPk X w (tcL p (idxT t.2.2 t.2.1 k.1 k.2.1 k.2.2 t.1 (liv t) i)) ∧ (∃ fr, w 92 = aI X 64 fr) ∧ same c w [79, 89, 90, 92])) := by
  have hlv := liv_le t ht
  have hbg := bgin t k i
  have hb := bgQ_le t k i ht
  have hn := inQ_le t k i ht
  have hh := hgt_le (leavesOf (liv t))
  have hfl := flf_le (bf := bgQ t k i) hlv
  have hll := leaves_le hlv
  have hf16 : flf (bgQ t k i) (liv t) < 16 := by have := leaf_lt hbg hlv (j := 0) (by unfold lvT; split <;> omega); omega
  have hlt := lvT_le hb hn
  have hsl : (srQ t k i).length = (inQ t k i).length := by rw [List.length_reverse, srt_len (gtv_swo _ _ _)]
  have hsm : ∀ x ∈ srQ t k i, x < 64 := fun x hx => by
    have := (srt_mem (gtv_swo _ _ _) _ x).mp (List.mem_reverse.mp hx)
    have := liveL_lt (List.mem_filter.mp this).1
    omega
  refine w_aload_n d_M_touchIndex_0 rfl ?_
  refine w_iconst 0 d_M_touchIndex_1 (by decide) ?_
  refine w_iload_n d_M_touchIndex_2 rfl ?_
  refine w_vV [_, _] c_M_156 d_M_touchIndex_3 rfl hM (by decide) (m_stretch hM hQ hE hk (Nat.zero_le _) ht hi hw) (fun w hw => ?_) rfl rfl (gq rfl) (gq rfl) (gq rfl) (gq rfl) (gq rfl) (gq rfl)
  obtain ⟨w1, ⟨fs, w2, w3⟩, w4⟩ := hw
  have hH1 : w 80 = aZ X 64 t.2.2 := (w4 80 (by decide)).trans hQ.1
  have hP1 : mPk X w p := ⟨hP.1.keep (w4 89 (by decide)) (w4 90 (by decide)), hP.2⟩
  refine w_aload_n d_M_touchIndex_6 rfl ?_
  refine w_vI [] c_M_180 d_M_touchIndex_7 rfl w1 (by decide) (m_firstLeaf w1 hH1 ht hb) (fun x w hw => ?_) rfl rfl (gq rfl) (gq rfl) (gq rfl) (gq rfl) (gq rfl) (gq rfl)
  obtain ⟨rfl, rfl⟩ := hw
  refine w_istore_n d_M_touchIndex_10 (by decide) ?_
  refine w_aload_n d_M_touchIndex_11 rfl ?_
  refine w_vI [] c_M_159 d_M_touchIndex_12 rfl w1 (by decide) (m_leavesT w1 hb hn) (fun x w hw => ?_) rfl rfl (gq rfl) (gq rfl) (gq rfl) (gq rfl) (gq rfl) (gq rfl)
  obtain ⟨rfl, rfl⟩ := hw
  refine w_istore_n d_M_touchIndex_15 (by decide) ?_
  refine w_aload_n d_M_touchIndex_16 rfl ?_
  refine w_vI [] c_M_126 d_M_touchIndex_17 rfl w1 (by decide) (m_height w1 hH1 ht) (fun x w hw => ?_) rfl rfl (gq rfl) (gq rfl) (gq rfl) (gq rfl) (gq rfl) (gq rfl)
  obtain ⟨rfl, rfl⟩ := hw
  refine w_istore d_M_touchIndex_20 (by decide) ?_
  refine m_dnGo (c0 := w) hi hf16 (hgt (leavesOf (liv t))) w p (by omega) same_rf w1 hP1 rfl (fun c1 s1 r1 r2 => ?_)
  refine w_iconst 0 d_M_touchIndex_67 (by decide) ?_
  refine w_istore d_M_touchIndex_68 (by decide) ?_
  refine m_lfGo (c0 := w) (p := tcL p (downT i (flf (bgQ t k i) (liv t)) (hgt (leavesOf (liv t))))) hi (fun j hj => leaf_lt hbg hlv hj) hlt (fun c2 s2 r3 r4 => ?_) (lvT (bgQ t k i) (inQ t k i).length) 0 c1 (by omega) s1 r1 r2
  refine w_aload_n d_M_touchIndex_92 rfl ?_
  refine w_getf g_M_144 d_M_touchIndex_93 r3 rfl (by decide) ?_
  refine w_istore d_M_touchIndex_96 (by decide) ?_
  refine w_post (fun r w' hw' => ?_) (m_rwGo (c0 := w) (S := srQ t k i) (p := tcL (tcL p (downT i (flf (bgQ t k i) (liv t)) (hgt (leavesOf (liv t))))) (leafT i (flf (bgQ t k i) (liv t)) (lvT (bgQ t k i) (inQ t k i).length))) hsm (by omega) w3 (srQ t k i).length 0 c2 (by omega) s2 ((s2 92 (by decide)).trans w2) (by rw [hsl]; exact r3) r4)
  obtain ⟨q0, q1, q2, q3⟩ := hw'
  rw [← tcL_app, ← tcL_app] at q1 q2
  have hT : downT i (flf (bgQ t k i) (liv t)) (hgt (leavesOf (liv t))) ++ (leafT i (flf (bgQ t k i) (liv t)) (lvT (bgQ t k i) (inQ t k i).length) ++ rowsT (srQ t k i)) = idxT t.2.2 t.2.1 k.1 k.2.1 k.2.2 t.1 (liv t) i := rfl
  rw [hT] at q1 q2
  exact ⟨q0, ⟨_, q1⟩, q2, ⟨fs, (q3 92 (by decide)).trans w2⟩, same_trans (same_sub w4 (by simp)) (same_sub q3 (by simp))⟩
end MTI
