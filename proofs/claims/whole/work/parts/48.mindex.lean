/-! The model: cost, index -/
theorem insL_last {gt : Nat → Nat → Bool} (hg : swo gt) {r : Nat} : ∀ {T : List Nat}, dec gt T → (insL gt r T).getLast? = match T.getLast? with
    | none => some r
    | some l => if gt l r then some r else some l
  | [], _ => rfl
  | [x], _ => by
    unfold insL
    by_cases h : gt x r = true
    · rw [if_pos h]
      simp [insL, h]
    · rw [if_neg h]
      simp [h]
  | x :: y :: t, h => by
    obtain ⟨h1, h2⟩ := List.pairwise_cons.mp h
    have ih := insL_last hg (r := r) h2
    have hl : ∃ z, (y :: t).getLast? = some z ∧ z ∈ y :: t := ⟨_, List.getLast?_eq_some_getLast (by simp), List.getLast_mem (by simp)⟩
    obtain ⟨z, hz, hm⟩ := hl
    have e1 : (x :: y :: t).getLast? = some z := by rw [List.getLast?_cons_cons]; exact hz
    rw [e1]
    rw [hz] at ih
    by_cases hx : gt x r = true
    · have hne : insL gt r (y :: t) ≠ [] := fun e => by
        have := insL_len (gt := gt) (r := r) (T := y :: t)
        rw [e] at this
        simp at this
      rw [insL, if_pos hx]
      obtain ⟨u, s, hu⟩ := List.exists_cons_of_ne_nil hne
      rw [hu, List.getLast?_cons_cons, ← hu]
      exact ih
    · have hx' : gt x r = false := by simpa using hx
      have hzr : gt z r = false := hg.2 _ _ _ (h1 z hm) hx'
      rw [insL, if_neg hx, List.getLast?_cons_cons, e1]
      simp [hzr]
theorem fe_last {h : Nat → Int32} {gt : Nat → Nat → Bool} (hg : swo gt) : ∀ (k : Nat), feGo h gt k = (srt gt (liveL h k)).getLast?
  | 0 => rfl
  | k + 1 => by
    have ih := fe_last (h := h) hg k
    unfold feGo
    rw [liveL_s]
    by_cases h0 : h k = 0
    · rw [if_pos h0, if_pos h0]; exact ih
    · rw [if_neg h0, if_neg h0, srt_snoc, insL_last hg (srt_dec hg _), ← ih]
      cases feGo h gt k <;> rfl
section MX
variable {X : gX} {a : Nat → Nat} {c w : Nat → va_E} {th : Int32} {t : QT} {k : QC} {o : QO} {l : QL} {p : QP} {d : QD} {b : QB} {r : List Nat} {n : Nat}
theorem mdl.scr (h : mdl X a c th t k o l p d b r) {m : QM} (hs : scr X a c w m t o l p d b r.length) : mdl X a w m.1 t k o l p d b r := by
  obtain ⟨h1, h2, h3⟩ := hs
  obtain ⟨-, CC, hc⟩ := h.E
  exact h.thr h3 h1 (by simp) ⟨h2, CC, (h3 93 (by decide)).trans hc⟩
theorem sameM_s {X : gX} {a : Nat → Nat} {c w : Nat → va_E} {m : QM} {t : QT} {o : QO} {l : QL} {p : QP} {d : QD} {b : QB} {an : Nat} (h : scr X a c w m t o l p d b an) : sameM c w := sameM_of h.2.2 (by simp)
abbrev cosM (X : gX) (a : Nat → Nat) (c : Nat → va_E) (t : QT) (k : QC) (o : QO) (l : QL) (p : QP) (d : QD) (b : QB) (r : List Nat) (x : Int32) : gO → (Nat → va_E) → Prop := pI (fun v w => ((∃ q, (∀ j, q = some j → j < 9) ∧ x = oI q ∧ v = wyV (cst t k) (nI (fours t.1)) q ∧ mdl X a w 0 t k o l p d b r) ∨ (¬ (x = -1 ∨ ixI x) ∧ mdl X a w 1 t k o l p d b r)) ∧ sameM c w)
theorem m_cost (h : mdl X a c th t k o l p d b r) (ok : okQ n t k o l p d b r) {x : Int32} : GW X a m_M_cost 5 116 0 0 0 (lv_args 0 [.ref (a 79), .int x]) [] c (cosM X a c t k o l p d b r x) := by
  have ht := ok.1
  obtain ⟨sc, hM⟩ := h.M
  refine w_aload_n d_M_cost_0 rfl ?_
  refine w_iload_n d_M_cost_1 rfl ?_
  refine w_iconst (-1) d_M_cost_2 (by decide) ?_
  refine w_icmp_eq 13 d_M_cost_3 (by decide) (fun h1 => ?_) (fun h1 => ?_)
  · -- taken
    subst h1
    refine w_iconst 0 d_M_cost_13 (by decide) ?_
    refine w_goto 18 d_M_cost_14 (by decide) ?_
    refine w_putf p_M_72 d_M_cost_18 hM rfl rfl (gqL rfl) (by decide) ?_
    refine w_aload_n d_M_cost_21 rfl ?_
    refine w_getf g_M_72 d_M_cost_22 va_s rfl (by decide) ?_
    refine w_if_le 30 d_M_cost_25 (by decide) (fun _ => ?_) (fun hn => absurd ((by decide)) hn)
    refine w_iload_n d_M_cost_30 rfl ?_
    refine w_iconst (-1) d_M_cost_31 (by decide) ?_
    refine w_icmp_ne 42 d_M_cost_32 (by decide) (fun hn => absurd (rfl) hn) (fun _ => ?_)
    refine w_aload_n d_M_cost_35 rfl ?_
    refine w_vI [] c_M_162 d_M_cost_36 rfl va_s (by decide) (m_heapPages (m := (0, sc)) (t := t) (o := o) (l := l) (p := p) (d := d) (b := b) (an := r.length) va_s ht) (fun x w hw => ?_) rfl rfl (gq rfl) (gq rfl) (gq rfl) (gq rfl) (gq rfl) (gq rfl)
    obtain ⟨rfl, rfl⟩ := hw
    refine w_goto 61 d_M_cost_39 (by decide) ?_
    exact w_iret d_M_cost_61 rfl (⟨_, rfl, Or.inl ⟨none, (fun j hj => by cases hj), rfl, rfl, h.thr1⟩, sameM_up (by decide) (by decide)⟩)
  · -- not taken
    refine w_iload_n d_M_cost_6 rfl ?_
    refine w_sI [_] c_M_123 d_M_cost_7 (m_isIdx) (fun x w hw => ?_) rfl rfl (gq rfl) (gq rfl) (gq rfl) (gq rfl) (gq rfl) (gq rfl)
    obtain ⟨h2, rfl⟩ := hw
    rcases h2 with ⟨rfl, j, j1, rfl⟩ | ⟨rfl, q1⟩
    · -- case
      refine w_if_eq 17 d_M_cost_10 (by decide) (fun hn => absurd hn ((by decide))) (fun _ => ?_)
      refine w_iconst 0 d_M_cost_13 (by decide) ?_
      refine w_goto 18 d_M_cost_14 (by decide) ?_
      refine w_putf p_M_72 d_M_cost_18 hM rfl rfl (gqL rfl) (by decide) ?_
      have hm := h.thr1 (th' := 0) (sc := sc)
      have hQ : mq X (va_up c 79 (oM a (0, sc) t o l p d b r.length)) t 0 k := hm.q (Nat.zero_le _)
      obtain ⟨⟨fr, hE⟩, -⟩ := hm.E
      refine w_aload_n d_M_cost_21 rfl ?_
      refine w_getf g_M_72 d_M_cost_22 va_s rfl (by decide) ?_
      refine w_if_le 30 d_M_cost_25 (by decide) (fun _ => ?_) (fun hn => absurd ((by decide)) hn)
      refine w_iload_n d_M_cost_30 rfl ?_
      refine w_iconst (-1) d_M_cost_31 (by decide) ?_
      refine w_icmp_ne 42 d_M_cost_32 (by decide) (fun _ => ?_) (fun hn => absurd hn ((nI_neg (by omega))))
      refine w_aload_n d_M_cost_42 rfl ?_
      refine w_iconst 0 d_M_cost_43 (by decide) ?_
      refine w_iload_n d_M_cost_44 rfl ?_
      refine w_vI [_, _] c_M_165 d_M_cost_45 rfl va_s (by decide) (m_isWay (q := 0) (m := (0, sc)) (t := t) (o := o) (l := l) (p := p) (d := d) (b := b) (an := r.length) va_s hQ ok.2.1 (by decide) j1) (fun x w hw => ?_) rfl rfl (gq rfl) (gq rfl) (gq rfl) (gq rfl) (gq rfl) (gq rfl)
      obtain ⟨rfl, rfl⟩ := hw
      refine w_if_eq 60 d_M_cost_48 (by decide) (fun h3 => ?_) (fun h3 => ?_)
      · -- taken
        have h3' : k.1 (fN j) = 0 := by simpa using bI_t.mp h3
        have h4 : cst t k j = -1 := by show costX _ _ _ _ _ _ _ _ = _; unfold costX; rw [if_pos h3']
        refine w_iconst (-1) d_M_cost_60 (by decide) ?_
        exact w_iret d_M_cost_61 rfl (⟨_, rfl, Or.inl ⟨some j, (fun i hi => by cases hi; exact j1), rfl, h4.symm, hm⟩, sameM_up (by decide) (by decide)⟩)
      · -- not taken
        have h3' : ¬ k.1 (fN j) = 0 := by simpa using bI_n.mp h3
        refine w_aload_n d_M_cost_51 rfl ?_
        refine w_iconst 0 d_M_cost_52 (by decide) ?_
        refine w_iload_n d_M_cost_53 rfl ?_
        refine w_vI [_, _] c_M_168 d_M_cost_54 rfl va_s (by decide) (m_costBy (q := 0) (m := (0, sc)) (t := t) (o := o) (l := l) (p := p) (d := d) (b := b) (an := r.length) va_s hQ hE ok.2.1 (by decide) ht j1 h3') (fun x w hw => ?_) rfl rfl (gq rfl) (gq rfl) (gq rfl) (gq rfl) (gq rfl) (gq rfl)
        obtain ⟨rfl, hs⟩ := hw
        refine w_goto 61 d_M_cost_57 (by decide) ?_
        exact w_iret d_M_cost_61 rfl (⟨_, rfl, Or.inl ⟨some j, (fun i hi => by cases hi; exact j1), rfl, rfl, hm.scr hs⟩, sameM_t (sameM_up (by decide) (by decide)) (sameM_s hs)⟩)
    · -- case
      refine w_if_eq 17 d_M_cost_10 (by decide) (fun _ => ?_) (fun hn => absurd (rfl) hn)
      refine w_iconst 1 d_M_cost_17 (by decide) ?_
      refine w_putf p_M_72 d_M_cost_18 hM rfl rfl (gqL rfl) (by decide) ?_
      refine w_aload_n d_M_cost_21 rfl ?_
      refine w_getf g_M_72 d_M_cost_22 va_s rfl (by decide) ?_
      refine w_if_le 30 d_M_cost_25 (by decide) (fun hn => absurd hn ((by decide))) (fun _ => ?_)
      refine w_iconst 0 d_M_cost_28 (by decide) ?_
      exact w_iret d_M_cost_29 rfl (⟨_, rfl, Or.inr ⟨fun z => z.elim h1 q1, h.thr1⟩, sameM_up (by decide) (by decide)⟩)
abbrev idxM (X : gX) (a : Nat → Nat) (c : Nat → va_E) (t : QT) (k : QC) (o : QO) (l : QL) (p : QP) (d : QD) (b : QB) (r : List Nat) (x y : Int32) : gO → (Nat → va_E) → Prop := pI (fun v w => ((∃ j, (j < 9 ∧ x = nI j) ∧ ((y = 0 ∧ v = b.2.2.2 j) ∨ (y = 1 ∧ v = nI (hgt (leavesOf (liv t)))) ∨ (y = 2 ∧ v = nI (szo (leavesOf (liv t)))) ∨ (y = 3 ∧ v = oI (feGo t.2.2 (gtv t.2.1 (nI (fN j)) (scol j)) t.1))) ∧ mdl X a w 0 t k o l p d b r) ∨ (¬ (ixI x ∧ (y = 0 ∨ y = 1 ∨ y = 2 ∨ y = 3)) ∧ mdl X a w 1 t k o l p d b r)) ∧ sameM c w)
theorem m_ix17 (h : mdl X a c th t k o l p d b r) {x y : Int32} (hn : ¬ (ixI x ∧ (y = 0 ∨ y = 1 ∨ y = 2 ∨ y = 3))) : GW X a m_M_index 3 72 0 0 17 [(0, .ref (a 79)), (1, .int x), (2, .int y)] [.ref (a 79)] c (idxM X a c t k o l p d b r x y) := by
  obtain ⟨sc, hM⟩ := h.M
  refine w_iconst 1 d_M_index_17 (by decide) ?_
  refine w_goto 22 d_M_index_18 (by decide) ?_
  refine w_putf p_M_72 d_M_index_22 hM rfl rfl (gqL rfl) (by decide) ?_
  refine w_aload_n d_M_index_25 rfl ?_
  refine w_getf g_M_72 d_M_index_26 va_s rfl (by decide) ?_
  refine w_if_le 34 d_M_index_29 (by decide) (fun hn => absurd hn ((by decide))) (fun _ => ?_)
  refine w_iconst 0 d_M_index_32 (by decide) ?_
  exact w_iret d_M_index_33 rfl (⟨_, rfl, Or.inr ⟨hn, h.thr1⟩, sameM_up (by decide) (by decide)⟩)
theorem m_index (h : mdl X a c th t k o l p d b r) (ok : okQ n t k o l p d b r) {x y : Int32} : GW X a m_M_index 3 72 0 0 0 (lv_args 0 [.ref (a 79), .int x, .int y]) [] c (idxM X a c t k o l p d b r x y) := by
  have ht := ok.1
  obtain ⟨sc, hM⟩ := h.M
  have hm := h.thr1 (th' := 0) (sc := sc)
  obtain ⟨⟨fr, hE⟩, -⟩ := hm.E
  obtain ⟨f1, f2, y1, y2, y3⟩ := hm.F
  refine w_aload_n d_M_index_0 rfl ?_
  refine w_iload_n d_M_index_1 rfl ?_
  refine w_sI [_] c_M_123 d_M_index_2 (m_isIdx) (fun x w hw => ?_) rfl rfl (gq rfl) (gq rfl) (gq rfl) (gq rfl) (gq rfl) (gq rfl)
  obtain ⟨h2, rfl⟩ := hw
  rcases h2 with ⟨rfl, j, j1, rfl⟩ | ⟨rfl, q1⟩
  · -- case
    refine w_if_eq 17 d_M_index_5 (by decide) (fun hn => absurd hn ((by decide))) (fun _ => ?_)
    refine w_iload_n d_M_index_8 rfl ?_
    refine w_if_lt 17 d_M_index_9 (by decide) (fun h1 => ?_) (fun h1 => ?_)
    · -- taken
      exact m_ix17 h (fun z => by rcases z.2 with rfl | rfl | rfl | rfl <;> exact absurd h1 (by decide))
    · -- not taken
      refine w_iload_n d_M_index_12 rfl ?_
      refine w_iconst 3 d_M_index_13 (by decide) ?_
      refine w_icmp_le 21 d_M_index_14 (by decide) (fun h2 => ?_) (fun h2 => ?_)
      · -- taken
        obtain ⟨i, hi, rfl⟩ := nn_le (n := 3) h1 h2 (by decide)
        have hi4 : i = 0 ∨ i = 1 ∨ i = 2 ∨ i = 3 := by omega
        refine w_iconst 0 d_M_index_21 (by decide) ?_
        refine w_putf p_M_72 d_M_index_22 hM rfl rfl (gqL rfl) (by decide) ?_
        refine w_aload_n d_M_index_25 rfl ?_
        refine w_getf g_M_72 d_M_index_26 va_s rfl (by decide) ?_
        refine w_if_le 34 d_M_index_29 (by decide) (fun _ => ?_) (fun hn => absurd ((by decide)) hn)
        rcases hi4 with rfl | rfl | rfl | rfl
        · -- case
          refine w_iload_n d_M_index_34 rfl ?_
          refine w_if_ne 45 d_M_index_35 (by decide) (fun hn => absurd (rfl) hn) (fun _ => ?_)
          refine w_aload_n d_M_index_38 rfl ?_
          refine w_getf g_M_23 d_M_index_39 va_s rfl (by decide) ?_
          refine w_iload_n d_M_index_42 rfl ?_
          refine w_iald d_M_index_43 hm.s rfl j1 (by decide) (by decide) ?_
          exact w_iret d_M_index_44 rfl (⟨_, rfl, Or.inl ⟨j, ⟨j1, rfl⟩, Or.inl ⟨rfl, rfl⟩, hm⟩, sameM_up (by decide) (by decide)⟩)
        · -- case
          refine w_iload_n d_M_index_34 rfl ?_
          refine w_if_ne 45 d_M_index_35 (by decide) (fun _ => ?_) (fun hn => absurd hn ((by decide)))
          refine w_iload_n d_M_index_45 rfl ?_
          refine w_iconst 1 d_M_index_46 (by decide) ?_
          refine w_icmp_ne 55 d_M_index_47 (by decide) (fun hn => absurd (rfl) hn) (fun _ => ?_)
          refine w_aload_n d_M_index_50 rfl ?_
          refine w_vI [] c_M_126 d_M_index_51 rfl va_s (by decide) (m_height (m := (0, sc)) (t := t) (o := o) (l := l) (p := p) (d := d) (b := b) (an := r.length) va_s hm.H ht) (fun x w hw => ?_) rfl rfl (gq rfl) (gq rfl) (gq rfl) (gq rfl) (gq rfl) (gq rfl)
          obtain ⟨rfl, rfl⟩ := hw
          exact w_iret d_M_index_54 rfl (⟨_, rfl, Or.inl ⟨j, ⟨j1, rfl⟩, Or.inr (Or.inl ⟨rfl, rfl⟩), hm⟩, sameM_up (by decide) (by decide)⟩)
        · -- case
          refine w_iload_n d_M_index_34 rfl ?_
          refine w_if_ne 45 d_M_index_35 (by decide) (fun _ => ?_) (fun hn => absurd hn ((by decide)))
          refine w_iload_n d_M_index_45 rfl ?_
          refine w_iconst 1 d_M_index_46 (by decide) ?_
          refine w_icmp_ne 55 d_M_index_47 (by decide) (fun _ => ?_) (fun hn => absurd hn ((by decide)))
          refine w_iload_n d_M_index_55 rfl ?_
          refine w_iconst 2 d_M_index_56 (by decide) ?_
          refine w_icmp_ne 65 d_M_index_57 (by decide) (fun hn => absurd (rfl) hn) (fun _ => ?_)
          refine w_aload_n d_M_index_60 rfl ?_
          refine w_vI [] c_M_129 d_M_index_61 rfl va_s (by decide) (m_size (m := (0, sc)) (t := t) (o := o) (l := l) (p := p) (d := d) (b := b) (an := r.length) va_s hm.H ht) (fun x w hw => ?_) rfl rfl (gq rfl) (gq rfl) (gq rfl) (gq rfl) (gq rfl) (gq rfl)
          obtain ⟨rfl, rfl⟩ := hw
          exact w_iret d_M_index_64 rfl (⟨_, rfl, Or.inl ⟨j, ⟨j1, rfl⟩, Or.inr (Or.inr (Or.inl ⟨rfl, rfl⟩)), hm⟩, sameM_up (by decide) (by decide)⟩)
        · -- case
          refine w_iload_n d_M_index_34 rfl ?_
          refine w_if_ne 45 d_M_index_35 (by decide) (fun _ => ?_) (fun hn => absurd hn ((by decide)))
          refine w_iload_n d_M_index_45 rfl ?_
          refine w_iconst 1 d_M_index_46 (by decide) ?_
          refine w_icmp_ne 55 d_M_index_47 (by decide) (fun _ => ?_) (fun hn => absurd hn ((by decide)))
          refine w_iload_n d_M_index_55 rfl ?_
          refine w_iconst 2 d_M_index_56 (by decide) ?_
          refine w_icmp_ne 65 d_M_index_57 (by decide) (fun _ => ?_) (fun hn => absurd hn ((by decide)))
          refine w_aload_n d_M_index_65 rfl ?_
          refine w_aload_n d_M_index_66 rfl ?_
          refine w_getf g_M_17 d_M_index_67 va_s rfl (by decide) ?_
          refine w_iload_n d_M_index_70 rfl ?_
          refine w_iald d_M_index_71 y1 rfl j1 (by decide) (by decide) ?_
          rw [(y3 j j1).1]
          refine w_aload_n d_M_index_72 rfl ?_
          refine w_getf g_M_20 d_M_index_73 va_s rfl (by decide) ?_
          refine w_iload_n d_M_index_76 rfl ?_
          refine w_iald d_M_index_77 y2 rfl j1 (by decide) (by decide) ?_
          rw [(y3 j j1).2]
          refine w_vV [_, _] c_M_132 d_M_index_78 rfl va_s (by decide) (m_sort (m := (0, sc)) (t := t) (o := o) (l := l) (p := p) (d := d) (b := b) (an := r.length) va_s hm.H hm.V hE ht (Or.inr ⟨fN j, fN_l j, rfl⟩) (scol_col j1)) (fun w hw => ?_) rfl rfl (gq rfl) (gq rfl) (gq rfl) (gq rfl) (gq rfl) (gq rfl)
          obtain ⟨w1, ⟨fs, w2, w3⟩, w4⟩ := hw
          have hs : scr X a (va_up c 79 (oM a (0, sc) t o l p d b r.length)) w (0, sc) t o l p d b r.length := ⟨⟨_, w1⟩, ⟨fs, w2⟩, w4⟩
          have hfe := fe_last (h := t.2.2) (gtv_swo t.2.1 (nI (fN j)) (scol j)) t.1
          have hlen : (srt (gtv t.2.1 (nI (fN j)) (scol j)) (liveL t.2.2 t.1)).length = liv t := srt_len (gtv_swo _ _ _) _
          have hle := liv_le t ht
          refine w_aload_n d_M_index_81 rfl ?_
          refine w_getf g_M_105 d_M_index_82 w1 rfl (by decide) ?_
          refine w_if_ne 92 d_M_index_85 (by decide) (fun h5 => ?_) (fun h5 => ?_)
          · -- taken
            have h5' : ¬ liv t = 0 := fun z => h5 (by show nI (liv t) = 0; rw [z]; rfl)
            refine w_aload_n d_M_index_92 rfl ?_
            refine w_getf g_M_63 d_M_index_93 w1 rfl (by decide) ?_
            refine w_iconst 0 d_M_index_96 (by decide) ?_
            refine w_iald d_M_index_97 w2 (show (0 : Int32) = nI 0 from rfl) (by decide : 0 < 64) (by decide) (by decide) ?_
            have hv : fs 0 = oI (feGo t.2.2 (gtv t.2.1 (nI (fN j)) (scol j)) t.1) := by have h6 := w3 0 (by rw [List.length_reverse, hlen]; omega); rw [Nat.zero_add] at h6; rw [h6, hfe, ← List.head?_reverse]; generalize hL : (srt (gtv t.2.1 (nI (fN j)) (scol j)) (liveL t.2.2 t.1)).reverse = L at *; cases L with | nil => exact absurd (by rw [← hlen, ← List.length_reverse, hL]; rfl) h5' | cons u L' => rfl
            exact w_iret d_M_index_98 rfl (⟨_, rfl, Or.inl ⟨j, ⟨j1, rfl⟩, Or.inr (Or.inr (Or.inr ⟨rfl, hv⟩)), hm.scr hs⟩, sameM_t (sameM_up (by decide) (by decide)) (sameM_s hs)⟩)
          · -- not taken
            have h5' : liv t = 0 := (nI_eq (b := 0) (by omega) (by decide)).mp h5
            have hv : (-1 : Int32) = oI (feGo t.2.2 (gtv t.2.1 (nI (fN j)) (scol j)) t.1) := by rw [hfe, List.length_eq_zero_iff.mp (hlen.trans h5')]; rfl
            refine w_iconst (-1) d_M_index_88 (by decide) ?_
            refine w_goto 98 d_M_index_89 (by decide) ?_
            exact w_iret d_M_index_98 rfl (⟨_, rfl, Or.inl ⟨j, ⟨j1, rfl⟩, Or.inr (Or.inr (Or.inr ⟨rfl, hv⟩)), hm.scr hs⟩, sameM_t (sameM_up (by decide) (by decide)) (sameM_s hs)⟩)
      · -- not taken
        exact m_ix17 h (fun z => by rcases z.2 with rfl | rfl | rfl | rfl <;> exact absurd h2 (by decide))
  · -- case
    refine w_if_eq 17 d_M_index_5 (by decide) (fun _ => ?_) (fun hn => absurd (rfl) hn)
    exact m_ix17 h (fun z => q1 z.1)
end MX
