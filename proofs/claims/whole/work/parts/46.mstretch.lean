/-! The model: stretch; the sorted rows, cut at the conditions -/
-- all rows in the index's order
abbrev sS (t : QT) (i : Nat) : List Nat := (srt (gtv t.2.1 (nI (fN i)) (scol i)) (liveL t.2.2 t.1)).reverse
theorem gtv_f {v : Nat → Int32} {f g : Int32} {x y : Nat} : gtv v f g x y = false ↔ ¬ ((colV v y f).toInt < (colV v x f).toInt ∨ ((colV v x f).toInt = (colV v y f).toInt ∧ (colV v y g).toInt < (colV v x g).toInt)) := by
  rw [← Bool.not_eq_true]
  simp only [gtv, Bool.or_eq_true, Bool.and_eq_true, decide_eq_true_eq, Int32.lt_iff_toInt_lt, Int32.toInt_inj]
theorem stB_t {v F K : Nat → Int32} {i x : Nat} : stB v F K i x = true ↔ ((colV v x (nI (fN i))).toInt < (F (fN i)).toInt ∨ (secB K i = true ∧ (colV v x (nI (fN i))).toInt = (F (fN i)).toInt ∧ (colV v x (scol i)).toInt < (F (scol i).toNatClampNeg).toInt)) := by
  unfold stB befB
  rw [nI_c (fN_l i)]
  simp only [Bool.or_eq_true, Bool.and_eq_true, decide_eq_true_eq, Int32.lt_iff_toInt_lt, Int32.toInt_inj]
theorem fitB_t {K F T : Nat → Int32} {j : Nat} {x : Int32} : fitB K F T j x = true ↔ (K j = 0 ∨ ((F j).toInt ≤ x.toInt ∧ x.toInt ≤ (T j).toInt)) := by
  unfold fitB
  simp only [Bool.or_eq_true, Bool.and_eq_true, decide_eq_true_eq, Int32.le_iff_toInt_le]
theorem insB_t {K F T v : Nat → Int32} {i x : Nat} : insB K F T v (nI (fN i)) (scol i) (secB K i) x = true ↔ (fitB K F T (fN i) (colV v x (nI (fN i))) = true ∧ (secB K i = true → fitB K F T (scol i).toNatClampNeg (colV v x (scol i)) = true)) := by
  unfold insB
  rw [nI_c (fN_l i)]
  cases secB K i <;> simp
theorem secB_K {K : Nat → Int32} {i : Nat} (h : secB K i = true) : K (fN i) = 1 ∧ ¬ K (scol i).toNatClampNeg = 0 := by
  unfold secB at h
  simp only [Bool.and_eq_true, decide_eq_true_eq] at h
  exact ⟨h.2.1, h.2.2⟩
theorem sS_sorted (t : QT) (i : Nat) : (sS t i).Pairwise (fun x y => gtv t.2.1 (nI (fN i)) (scol i) x y = false) := List.pairwise_reverse.mpr (srt_dec (gtv_swo _ _ _) _)
-- what lies ahead lies in front; of the rest, what fits lies in front
theorem cut_bf (t : QT) (k : QC) (i : Nat) : (sS t i).takeWhile (stB t.2.1 k.2.1 k.1 i) = (sS t i).filter (stB t.2.1 k.2.1 k.1 i) ∧ (sS t i).dropWhile (stB t.2.1 k.2.1 k.1 i) = (sS t i).filter (fun x => !stB t.2.1 k.2.1 k.1 i x) := by
  refine take_filter ((sS_sorted t i).imp (fun {x y} h hy => ?_))
  rw [gtv_f] at h
  rw [stB_t] at hy ⊢
  rcases hy with hy | ⟨hs, h2, h3⟩
  · exact Or.inl (by omega)
  · by_cases e : (colV t.2.1 x (nI (fN i))).toInt < (k.2.1 (fN i)).toInt
    · exact Or.inl e
    · exact Or.inr ⟨hs, by omega, by omega⟩
theorem tw_all {p : Nat → Bool} : ∀ {A : List Nat}, (∀ x ∈ A, p x = true) → A.takeWhile p = A
  | [], _ => rfl
  | x :: A, h => by rw [List.takeWhile_cons, if_pos (h x List.mem_cons_self), tw_all (fun y hy => h y (List.mem_cons_of_mem _ hy))]
theorem cut_in (t : QT) {k : QC} (hk : kOk k.1 k.2.1 k.2.2) {i : Nat} (hw : ¬ k.1 (fN i) = 0) : ((sS t i).filter (fun x => !stB t.2.1 k.2.1 k.1 i x)).takeWhile (insB k.1 k.2.1 k.2.2 t.2.1 (nI (fN i)) (scol i) (secB k.1 i)) = (srt (gtv t.2.1 (nI (fN i)) (scol i)) (inI t.2.2 t.2.1 k.1 k.2.1 k.2.2 t.1 i)).reverse := by
  have h1 : ((sS t i).filter (fun x => !stB t.2.1 k.2.1 k.1 i x)).Pairwise (fun x y => insB k.1 k.2.1 k.2.2 t.2.1 (nI (fN i)) (scol i) (secB k.1 i) y = true → insB k.1 k.2.1 k.2.2 t.2.1 (nI (fN i)) (scol i) (secB k.1 i) x = true) := by
    refine List.Pairwise.imp_of_mem ?_ ((sS_sorted t i).filter _)
    intro x y hx hy h hin
    have hx1 := (List.mem_filter.mp hx).2
    have hx2 : ¬ stB t.2.1 k.2.1 k.1 i x = true := by simpa using hx1
    rw [gtv_f] at h
    rw [stB_t] at hx2
    rw [insB_t] at hin ⊢
    rw [fitB_t] at hin ⊢
    have h3 := hin.1.resolve_left hw
    refine ⟨Or.inr ?_, fun hs => ?_⟩
    · omega
    · obtain ⟨s1, s2⟩ := secB_K hs
      have h4 := hin.2 hs
      rw [fitB_t] at h4 ⊢
      have h5 := h4.resolve_left s2
      have h6 : k.2.1 (fN i) = k.2.2 (fN i) := by
        have := (hk (fN i) (fN_l i)).2
        unfold toK at this
        rw [if_pos s1] at this
        exact this
      rw [← h6] at h3
      refine Or.inr ?_
      have h7 : ¬ ((colV t.2.1 x (nI (fN i))).toInt = (k.2.1 (fN i)).toInt ∧ (colV t.2.1 x (scol i)).toInt < (k.2.1 (scol i).toNatClampNeg).toInt) := fun z => hx2 (Or.inr ⟨hs, z.1, z.2⟩)
      omega
  rw [(take_filter h1).1, List.filter_filter]
  unfold sS inI
  rw [List.filter_reverse, srt_filter (gtv_swo _ _ _)]
  congr 2
  refine List.filter_congr (fun x _ => ?_)
  rw [Bool.and_comm]
theorem bf_len (t : QT) (k : QC) (i : Nat) : ((sS t i).filter (stB t.2.1 k.2.1 k.1 i)).length = bfI t.2.2 t.2.1 k.1 k.2.1 t.1 i := by
  unfold sS bfI
  rw [List.filter_reverse, List.length_reverse, srt_filter (gtv_swo _ _ _), srt_len (gtv_swo _ _ _)]
theorem sS_len (t : QT) (i : Nat) : (sS t i).length = liv t := by
  unfold sS
  rw [List.length_reverse, srt_len (gtv_swo _ _ _)]
theorem sS_lt {t : QT} {i x : Nat} (h : x ∈ sS t i) : x < t.1 := by
  unfold sS at h
  exact liveL_lt ((srt_mem (gtv_swo _ _ _) _ x).mp (List.mem_reverse.mp h))
-- begin, and the stretch
abbrev bgQ (t : QT) (k : QC) (i : Nat) : Nat := bfI t.2.2 t.2.1 k.1 k.2.1 t.1 i
abbrev inQ (t : QT) (k : QC) (i : Nat) : List Nat := inI t.2.2 t.2.1 k.1 k.2.1 k.2.2 t.1 i
abbrev srQ (t : QT) (k : QC) (i : Nat) : List Nat := (srt (gtv t.2.1 (nI (fN i)) (scol i)) (inQ t k i)).reverse
section MT
variable {X : gX} {a : Nat → Nat} {m : QM} {t : QT} {k : QC} {o : QO} {l : QL} {p : QP} {d : QD} {b : QB} {an n q : Nat}
theorem m_bgGo {i en : Nat} {e0 : Int32} {fr : Nat → Int32} {S : List Nat} (hk : kOk k.1 k.2.1 k.2.2) (hq : q ≤ 8) (hi : i < 9) (hS : ∀ x ∈ S, x < 64) (hSl : S.length ≤ 64) (hl : lay fr 0 S) {Post : gO → (Nat → va_E) → Prop} {c0 : Nat → va_E}
    (next : ∀ c', c' 79 = oM a (e0, S.length, (S.takeWhile (stB t.2.1 k.2.1 k.1 i)).length, en) t o l p d b an → same c0 c' [79] → GW X a m_M_stretch 3 72 0 0 63 [(0, .ref (a 79)), (1, .int (nI q)), (2, .int (nI i))] [] c' Post) :
    ∀ (B A : List Nat) (c : Nat → va_E), S = A ++ B → (∀ x ∈ A, stB t.2.1 k.2.1 k.1 i x = true) → same c0 c [79] → mq X c t q k → c 92 = aI X 64 fr → c 79 = oM a (e0, S.length, A.length, en) t o l p d b an → GW X a m_M_stretch 3 72 0 0 21 [(0, .ref (a 79)), (1, .int (nI q)), (2, .int (nI i))] [] c Post := by
  intro B
  induction B with
  | nil =>
    intro A c hS0 hA hs hQ hE hM
    have hSA : S = A := by rw [hS0, List.append_nil]
    have htw : (S.takeWhile (stB t.2.1 k.2.1 k.1 i)).length = A.length := by rw [hSA, tw_all hA]
    refine w_aload_n d_M_stretch_21 rfl ?_
    refine w_getf g_M_144 d_M_stretch_22 hM rfl (by decide) ?_
    refine w_aload_n d_M_stretch_25 rfl ?_
    refine w_getf g_M_105 d_M_stretch_26 hM rfl (by decide) ?_
    refine w_icmp_ge 63 d_M_stretch_29 (by decide) (fun _ => ?_) (fun hn => absurd ((by rw [hSA]; exact Int32.le_refl _)) hn)
    exact next c (by rw [htw]; exact hM) hs
  | cons x B ih =>
    intro A c hS0 hA hs hQ hE hM
    have hx : x < 64 := hS x (by rw [hS0]; simp)
    have hlA : A.length < S.length := by rw [hS0]; simp
    have hfx : fr A.length = nI x := by
      have := hl A.length hlA
      rw [Nat.zero_add] at this
      rw [this, hS0]
      simp [List.getD_eq_getElem?_getD]
    refine w_aload_n d_M_stretch_21 rfl ?_
    refine w_getf g_M_144 d_M_stretch_22 hM rfl (by decide) ?_
    refine w_aload_n d_M_stretch_25 rfl ?_
    refine w_getf g_M_105 d_M_stretch_26 hM rfl (by decide) ?_
    refine w_icmp_ge 63 d_M_stretch_29 (by decide) (fun hn => absurd hn (fun z => absurd ((nI_leI (by show S.length < 2 ^ 31; omega) (by show A.length < 2 ^ 31; omega)).mp z) (by show ¬ S.length ≤ A.length; omega))) (fun _ => ?_)
    refine w_aload_n d_M_stretch_32 rfl ?_
    refine w_aload_n d_M_stretch_33 rfl ?_
    refine w_getf g_M_63 d_M_stretch_34 hM rfl (by decide) ?_
    refine w_aload_n d_M_stretch_37 rfl ?_
    refine w_getf g_M_144 d_M_stretch_38 hM rfl (by decide) ?_
    refine w_iald d_M_stretch_41 hE rfl (show A.length < 64 by omega) (by decide) (by decide) ?_
    rw [hfx]
    refine w_iload_n d_M_stretch_42 rfl ?_
    refine w_iload_n d_M_stretch_43 rfl ?_
    refine w_vI [_, _, _] c_M_147 d_M_stretch_44 rfl hM (by decide) (m_isAhead hM hQ hk hq hx hi) (fun x w hw => ?_) rfl rfl (gq rfl) (gq rfl) (gq rfl) (gq rfl) (gq rfl) (gq rfl)
    obtain ⟨rfl, rfl⟩ := hw
    refine w_if_eq 63 d_M_stretch_47 (by decide) (fun h0 => ?_) (fun h0 => ?_)
    · -- taken
      have h1 := bI_t.mp h0
      have htw : (S.takeWhile (stB t.2.1 k.2.1 k.1 i)).length = A.length := by rw [hS0, List.takeWhile_append_of_pos hA, List.takeWhile_cons, if_neg (by rw [h1]; decide)]; simp
      exact next c (by rw [htw]; exact hM) hs
    · -- not taken
      have h1 := bI_n.mp h0
      refine w_aload_n d_M_stretch_50 rfl ?_
      refine w_dup d_M_stretch_51 rfl ?_
      refine w_getf g_M_144 d_M_stretch_52 hM rfl (by decide) ?_
      refine w_iconst 1 d_M_stretch_55 (by decide) ?_
      refine w_iadd d_M_stretch_56 ?_
      rw [show nI A.length + 1 = nI (A ++ [x]).length by rw [nI_1, List.length_append]; rfl]
      refine w_putf p_M_144 d_M_stretch_57 hM rfl rfl (gqL rfl) (by decide) ?_
      refine w_goto 21 d_M_stretch_60 (by decide) ?_
      exact ih (A ++ [x]) _ (by rw [hS0]; simp) (fun y hy => by rcases List.mem_append.mp hy with hy | hy; exact hA y hy; rw [List.mem_singleton.mp hy]; exact h1) (same_trans hs (same_up (by simp))) (hQ.keep (L := [79]) (same_up (by simp)) (by simp)) (va_n (by decide) hE) rfl
theorem m_enGo {i bg : Nat} {e0 : Int32} {fr : Nat → Int32} {S A0 D : List Nat} (hS0 : S = A0 ++ D) (hk : kOk k.1 k.2.1 k.2.2) (hq : q ≤ 8) (hi : i < 9) (hS : ∀ x ∈ S, x < 64) (hSl : S.length ≤ 64) (hl : lay fr 0 S) {Post : gO → (Nat → va_E) → Prop} {c0 : Nat → va_E}
    (next : ∀ c', c' 79 = oM a (e0, S.length, bg, A0.length + (D.takeWhile (insB k.1 k.2.1 k.2.2 t.2.1 (nI (fN i)) (scol i) (secB k.1 i))).length) t o l p d b an → same c0 c' [79] → GW X a m_M_stretch 3 72 0 0 113 [(0, .ref (a 79)), (1, .int (nI q)), (2, .int (nI i))] [] c' Post) :
    ∀ (B A : List Nat) (c : Nat → va_E), D = A ++ B → (∀ x ∈ A, insB k.1 k.2.1 k.2.2 t.2.1 (nI (fN i)) (scol i) (secB k.1 i) x = true) → same c0 c [79] → mq X c t q k → c 92 = aI X 64 fr → c 79 = oM a (e0, S.length, bg, A0.length + A.length) t o l p d b an → GW X a m_M_stretch 3 72 0 0 71 [(0, .ref (a 79)), (1, .int (nI q)), (2, .int (nI i))] [] c Post := by
  intro B
  induction B with
  | nil =>
    intro A c hD hA hs hQ hE hM
    have hDA : D = A := by rw [hD, List.append_nil]
    have htw : (D.takeWhile (insB k.1 k.2.1 k.2.2 t.2.1 (nI (fN i)) (scol i) (secB k.1 i))).length = A.length := by rw [hDA, tw_all hA]
    refine w_aload_n d_M_stretch_71 rfl ?_
    refine w_getf g_M_150 d_M_stretch_72 hM rfl (by decide) ?_
    refine w_aload_n d_M_stretch_75 rfl ?_
    refine w_getf g_M_105 d_M_stretch_76 hM rfl (by decide) ?_
    refine w_icmp_ge 113 d_M_stretch_79 (by decide) (fun _ => ?_) (fun hn => absurd ((by rw [hS0, hDA, List.length_append]; exact Int32.le_refl _)) hn)
    exact next c (by rw [htw]; exact hM) hs
  | cons x B ih =>
    intro A c hD hA hs hQ hE hM
    have hx : x < 64 := hS x (by rw [hS0, hD]; simp)
    have hlA : A0.length + A.length < S.length := by rw [hS0, hD]; simp
    have hfx : fr (A0.length + A.length) = nI x := by
      have := hl (A0.length + A.length) hlA
      rw [Nat.zero_add] at this
      rw [this, hS0, hD, ← List.append_assoc, ← List.length_append]
      simp [List.getD_eq_getElem?_getD]
    refine w_aload_n d_M_stretch_71 rfl ?_
    refine w_getf g_M_150 d_M_stretch_72 hM rfl (by decide) ?_
    refine w_aload_n d_M_stretch_75 rfl ?_
    refine w_getf g_M_105 d_M_stretch_76 hM rfl (by decide) ?_
    refine w_icmp_ge 113 d_M_stretch_79 (by decide) (fun hn => absurd hn (fun z => absurd ((nI_leI (by show S.length < 2 ^ 31; omega) (by show A0.length + A.length < 2 ^ 31; omega)).mp z) (by show ¬ S.length ≤ A0.length + A.length; omega))) (fun _ => ?_)
    refine w_aload_n d_M_stretch_82 rfl ?_
    refine w_aload_n d_M_stretch_83 rfl ?_
    refine w_getf g_M_63 d_M_stretch_84 hM rfl (by decide) ?_
    refine w_aload_n d_M_stretch_87 rfl ?_
    refine w_getf g_M_150 d_M_stretch_88 hM rfl (by decide) ?_
    refine w_iald d_M_stretch_91 hE rfl (show A0.length + A.length < 64 by omega) (by decide) (by decide) ?_
    rw [hfx]
    refine w_iload_n d_M_stretch_92 rfl ?_
    refine w_iload_n d_M_stretch_93 rfl ?_
    refine w_vI [_, _, _] c_M_153 d_M_stretch_94 rfl hM (by decide) (m_isIn hM hQ hk hq hx hi) (fun x w hw => ?_) rfl rfl (gq rfl) (gq rfl) (gq rfl) (gq rfl) (gq rfl) (gq rfl)
    obtain ⟨rfl, rfl⟩ := hw
    refine w_if_eq 113 d_M_stretch_97 (by decide) (fun h0 => ?_) (fun h0 => ?_)
    · -- taken
      have h1 := bI_t.mp h0
      have htw : (D.takeWhile (insB k.1 k.2.1 k.2.2 t.2.1 (nI (fN i)) (scol i) (secB k.1 i))).length = A.length := by rw [hD, List.takeWhile_append_of_pos hA, List.takeWhile_cons, if_neg (by rw [h1]; decide)]; simp
      exact next c (by rw [htw]; exact hM) hs
    · -- not taken
      have h1 := bI_n.mp h0
      refine w_aload_n d_M_stretch_100 rfl ?_
      refine w_dup d_M_stretch_101 rfl ?_
      refine w_getf g_M_150 d_M_stretch_102 hM rfl (by decide) ?_
      refine w_iconst 1 d_M_stretch_105 (by decide) ?_
      refine w_iadd d_M_stretch_106 ?_
      rw [show nI (A0.length + A.length) + 1 = nI (A0.length + (A ++ [x]).length) by rw [nI_1, List.length_append]; rfl]
      refine w_putf p_M_150 d_M_stretch_107 hM rfl rfl (gqL rfl) (by decide) ?_
      refine w_goto 71 d_M_stretch_110 (by decide) ?_
      exact ih (A ++ [x]) _ (by rw [hD]; simp) (fun y hy => by rcases List.mem_append.mp hy with hy | hy; exact hA y hy; rw [List.mem_singleton.mp hy]; exact h1) (same_trans hs (same_up (by simp))) (hQ.keep (L := [79]) (same_up (by simp)) (by simp)) (va_n (by decide) hE) rfl
variable {c : Nat → va_E}
theorem m_stretch {i : Nat} {fr : Nat → Int32} (hM : c 79 = oM a m t o l p d b an) (hQ : mq X c t q k) (hE : c 92 = aI X 64 fr) (hk : kOk k.1 k.2.1 k.2.2) (hq : q ≤ 8) (ht : t.1 ≤ 64) (hi : i < 9) (hw : ¬ k.1 (fN i) = 0) :
    GW X a m_M_stretch 3 72 0 0 0 (lv_args 0 [.ref (a 79), .int (nI q), .int (nI i)]) [] c (pV (fun w => w 79 = oM a (m.1, liv t, bgQ t k i, bgQ t k i + (inQ t k i).length) t o l p d b an ∧ (∃ fr, w 92 = aI X 64 fr ∧ lay fr (bgQ t k i) (srQ t k i)) ∧ same c w [79, 92])) := by
  have hQ0 := hQ
  obtain ⟨h1, h2, ⟨f1, f2, y1, y2, y3⟩, -⟩ := hQ
  have hlS := sS_len t i
  have hle := liv_le t ht
  have hS64 : ∀ x ∈ sS t i, x < 64 := fun x hx => by have := sS_lt hx; omega
  obtain ⟨c1, c2⟩ := cut_bf t k i
  have c3 := cut_in t hk hw
  have hcut : sS t i = (sS t i).filter (stB t.2.1 k.2.1 k.1 i) ++ (sS t i).filter (fun x => !stB t.2.1 k.2.1 k.1 i x) := by rw [← c1, ← c2]; exact (List.takeWhile_append_dropWhile).symm
  have hin : (srQ t k i).length = (inQ t k i).length := by rw [List.length_reverse, srt_len (gtv_swo _ _ _)]
  refine w_aload_n d_M_stretch_0 rfl ?_
  refine w_aload_n d_M_stretch_1 rfl ?_
  refine w_getf g_M_17 d_M_stretch_2 hM rfl (by decide) ?_
  refine w_iload_n d_M_stretch_5 rfl ?_
  refine w_iald d_M_stretch_6 y1 rfl hi (by decide) (by decide) ?_
  rw [(y3 i hi).1]
  refine w_aload_n d_M_stretch_7 rfl ?_
  refine w_getf g_M_20 d_M_stretch_8 hM rfl (by decide) ?_
  refine w_iload_n d_M_stretch_11 rfl ?_
  refine w_iald d_M_stretch_12 y2 rfl hi (by decide) (by decide) ?_
  rw [(y3 i hi).2]
  refine w_vV [_, _] c_M_132 d_M_stretch_13 rfl hM (by decide) (m_sort hM h1 h2 hE ht (Or.inr ⟨fN i, fN_l i, rfl⟩) (scol_col hi)) (fun w hw => ?_) rfl rfl (gq rfl) (gq rfl) (gq rfl) (gq rfl) (gq rfl) (gq rfl)
  obtain ⟨w1, ⟨fs, w2, w3⟩, w4⟩ := hw
  have hQ1 : mq X w t q k := hQ0.keep w4 (by simp)
  refine w_aload_n d_M_stretch_16 rfl ?_
  refine w_iconst 0 d_M_stretch_17 (by decide) ?_
  refine w_putf p_M_144 d_M_stretch_18 w1 rfl rfl (gqL rfl) (by decide) ?_
  refine m_bgGo (X := X) (a := a) (t := t) (k := k) (o := o) (l := l) (p := p) (d := d) (b := b) (an := an) (q := q) (i := i) (en := m.2.2.2) (e0 := m.1) (fr := fs) (S := sS t i) hk hq hi hS64 (by omega) w3 (c0 := w) (Post := pV (fun w => w 79 = oM a (m.1, liv t, bgQ t k i, bgQ t k i + (inQ t k i).length) t o l p d b an ∧ (∃ fr, w 92 = aI X 64 fr ∧ lay fr (bgQ t k i) (srQ t k i)) ∧ same c w [79, 92])) ?_ (sS t i) [] _ rfl (fun x hx => by cases hx) (same_up (by simp)) (hQ1.keep (L := [79]) (same_up (by simp)) (by simp)) (va_n (by decide) w2) (by rw [hlS]; rfl)
  intro c' hM' hs'
  rw [c1, bf_len, hlS] at hM'
  have hQ2 : mq X c' t q k := hQ1.keep hs' (by simp)
  refine w_aload_n d_M_stretch_63 rfl ?_
  refine w_aload_n d_M_stretch_64 rfl ?_
  refine w_getf g_M_144 d_M_stretch_65 hM' rfl (by decide) ?_
  refine w_putf p_M_150 d_M_stretch_68 hM' rfl rfl (gqL rfl) (by decide) ?_
  refine m_enGo (X := X) (a := a) (t := t) (k := k) (o := o) (l := l) (p := p) (d := d) (b := b) (an := an) (q := q) (i := i) (bg := bgQ t k i) (e0 := m.1) (fr := fs) (S := sS t i) (A0 := (sS t i).filter (stB t.2.1 k.2.1 k.1 i)) (D := (sS t i).filter (fun x => !stB t.2.1 k.2.1 k.1 i x)) hcut hk hq hi hS64 (by omega) w3 (c0 := c') (Post := pV (fun w => w 79 = oM a (m.1, liv t, bgQ t k i, bgQ t k i + (inQ t k i).length) t o l p d b an ∧ (∃ fr, w 92 = aI X 64 fr ∧ lay fr (bgQ t k i) (srQ t k i)) ∧ same c w [79, 92])) ?_ ((sS t i).filter (fun x => !stB t.2.1 k.2.1 k.1 i x)) [] _ rfl (fun x hx => by cases hx) (same_up (by simp)) (hQ2.keep (L := [79]) (same_up (by simp)) (by simp)) (va_n (by decide) ((hs' 92 (by decide)).trans w2)) (by rw [bf_len, hlS]; rfl)
  intro c'' hM'' hs''
  rw [c3, bf_len, hlS, hin] at hM''
  have hlay : lay fs (bgQ t k i) (srQ t k i) := by
    have h5 : lay fs 0 (sS t i) := w3
    rw [hcut] at h5
    have h6 := (lay_app.mp h5).2
    rw [bf_len, Nat.zero_add, ← List.takeWhile_append_dropWhile (p := insB k.1 k.2.1 k.2.2 t.2.1 (nI (fN i)) (scol i) (secB k.1 i)) (l := (sS t i).filter (fun x => !stB t.2.1 k.2.1 k.1 i x)), c3] at h6
    exact (lay_app.mp h6).1
  exact w_vret d_M_stretch_113 rfl (⟨rfl, hM'', ⟨fs, (hs'' 92 (by decide)).trans ((hs' 92 (by decide)).trans w2), hlay⟩, same_trans (same_trans w4 (same_sub hs' (by simp))) (same_sub hs'' (by simp))⟩)
end MT
