/-! The model: delete, change, value, where, order, answer, last, shapes, changes, budget -/
section MQ
variable {X : gX} {a : Nat → Nat} {c w : Nat → va_E} {th : Int32} {t : QT} {k : QC} {o : QO} {l : QL} {p : QP} {d : QD} {b : QB} {r : List Nat} {n : Nat}
theorem mdl.rows (h : mdl X a c th t k o l p d b r) (hs : same c w [79, 80, 81]) {th' : Int32} {t' : QT} {d' : QD} {b' : QB} (hM : ∃ sc, w 79 = oM a (th', sc) t' o l p d' b' r.length) (h1 : w 80 = aZ X 64 t'.2.2) (h2 : w 81 = aI X 192 t'.2.1) (hd1 : d'.1 = d.1) (hd2 : d'.2.2 = d.2.2) (hb : b'.2.2.2 = b.2.2.2) : mdl X a w th' t' k o l p d' b' r :=
  h.part hs hM (Or.inr h1) (Or.inr h2) ⟨by decide, by decide⟩ (Or.inl ⟨by decide, hb⟩) (Or.inl ⟨by decide, by decide, by decide, rfl, hd1, hd2⟩) (Or.inl ⟨by decide, hd1, hd2⟩) (Or.inl ⟨by decide, by decide, rfl, rfl, rfl⟩) (Or.inl ⟨by decide, rfl⟩) (Or.inl ⟨by decide, by decide⟩)
theorem mdl.fld (h : mdl X a c th t k o l p d b r) (hs : same c w [79]) {th' : Int32} {o' : QO} {l' : QL} {b' : QB} (hM : ∃ sc, w 79 = oM a (th', sc) t o' l' p d b' r.length) (hb : b'.2.2.2 = b.2.2.2) : mdl X a w th' t k o' l' p d b' r :=
  h.part hs hM (Or.inl ⟨by decide, rfl⟩) (Or.inl ⟨by decide, rfl⟩) ⟨by decide, by decide⟩ (Or.inl ⟨by decide, hb⟩) (Or.inl ⟨by decide, by decide, by decide, rfl, rfl, rfl⟩) (Or.inl ⟨by decide, rfl, rfl⟩) (Or.inl ⟨by decide, by decide, rfl, rfl, rfl⟩) (Or.inl ⟨by decide, rfl⟩) (Or.inl ⟨by decide, by decide⟩)
theorem mdl.bld (h : mdl X a c th t k o l p d b r) (hs : same c w [79, 84]) {th' : Int32} {b' : QB} (hM : ∃ sc, w 79 = oM a (th', sc) t o l p d b' r.length) (hb : w 84 = aI X 9 b'.2.2.2) : mdl X a w th' t k o l p d b' r :=
  h.part hs hM (Or.inl ⟨by decide, rfl⟩) (Or.inl ⟨by decide, rfl⟩) ⟨by decide, by decide⟩ (Or.inr hb) (Or.inl ⟨by decide, by decide, by decide, rfl, rfl, rfl⟩) (Or.inl ⟨by decide, rfl, rfl⟩) (Or.inl ⟨by decide, by decide, rfl, rfl, rfl⟩) (Or.inl ⟨by decide, rfl⟩) (Or.inl ⟨by decide, by decide⟩)
theorem m_delete (h : mdl X a c th t k o l p d b r) (ok : okQ n t k o l p d b r) {x : Int32} : GW X a m_M_delete 1 21 0 0 0 (lv_args 0 [.ref (a 79), .int x]) [] c (pV (fun w => ((∃ j, j < t.1 ∧ x = nI j ∧ ¬ t.2.2 j = 0 ∧ mdl X a w 0 (delT t j) k o l p (ntD d) (ntB b j) r) ∨ (¬ rwI t x ∧ mdl X a w 1 t k o l p d b r)) ∧ sameM c w)) := by
  have hi := ok.1
  obtain ⟨sc, hM⟩ := h.M
  refine w_aload_n d_M_delete_0 rfl ?_
  refine w_aload_n d_M_delete_1 rfl ?_
  refine w_iload_n d_M_delete_2 rfl ?_
  refine w_vI [_] c_M_95 d_M_delete_3 rfl hM (by decide) (m_isRow hM h.H hi) (fun x w hw => ?_) rfl rfl (gq rfl) (gq rfl) (gq rfl) (gq rfl) (gq rfl) (gq rfl)
  obtain ⟨h1, rfl⟩ := hw
  rcases h1 with ⟨rfl, j, j1, rfl, j2⟩ | ⟨rfl, j2⟩
  · -- case
    refine w_if_eq 13 d_M_delete_6 (by decide) (fun hn => absurd hn ((by decide))) (fun _ => ?_)
    refine w_iconst 0 d_M_delete_9 (by decide) ?_
    refine w_goto 14 d_M_delete_10 (by decide) ?_
    refine w_putf p_M_72 d_M_delete_14 hM rfl rfl (gqL rfl) (by decide) ?_
    refine w_aload_n d_M_delete_17 rfl ?_
    refine w_getf g_M_72 d_M_delete_18 va_s rfl (by decide) ?_
    refine w_if_ne 36 d_M_delete_21 (by decide) (fun hn => absurd (rfl) hn) (fun _ => ?_)
    refine w_aload_n d_M_delete_24 rfl ?_
    refine w_getf g_M_7 d_M_delete_25 va_s rfl (by decide) ?_
    refine w_iload_n d_M_delete_28 rfl ?_
    refine w_iconst 0 d_M_delete_29 (by decide) ?_
    refine w_zast d_M_delete_30 (va_n (by decide) h.H) rfl (by omega) (by decide) (by decide) (by decide) ?_
    refine w_aload_n d_M_delete_31 rfl ?_
    refine w_iload_n d_M_delete_32 rfl ?_
    refine w_vV [_] c_M_91 d_M_delete_33 rfl (va_n (by decide) va_s) (by decide) (m_note (row := j) (d := d) (b := b) (m := (0, sc)) (t := t) (o := o) (l := l) (p := p) (an := r.length) (va_n (by decide) va_s) (by omega) (by have := ok.2.2.2.2.2.2.1.2.1; omega) ok.2.2.2.2.2.2.1.1) (fun w hw => ?_) rfl rfl (gq rfl) (gq rfl) (gq rfl) (gq rfl) (gq rfl) (gq rfl)
    subst hw
    exact w_vret d_M_delete_36 rfl (⟨rfl, Or.inl ⟨j, j1, rfl, j2, h.rows (same_trans (same_trans (same_up (by simp)) (same_up (by simp))) (same_up (by simp))) ⟨sc, rfl⟩ rfl h.V rfl rfl rfl⟩, sameM_t (sameM_t (sameM_up (by decide) (by decide)) (sameM_up (by decide) (by decide))) (sameM_up (by decide) (by decide))⟩)
  · -- case
    refine w_if_eq 13 d_M_delete_6 (by decide) (fun _ => ?_) (fun hn => absurd (rfl) hn)
    refine w_iconst 1 d_M_delete_13 (by decide) ?_
    refine w_putf p_M_72 d_M_delete_14 hM rfl rfl (gqL rfl) (by decide) ?_
    refine w_aload_n d_M_delete_17 rfl ?_
    refine w_getf g_M_72 d_M_delete_18 va_s rfl (by decide) ?_
    refine w_if_ne 36 d_M_delete_21 (by decide) (fun _ => ?_) (fun hn => absurd hn ((by decide)))
    exact w_vret d_M_delete_36 rfl (⟨rfl, Or.inr ⟨j2, h.thr1⟩, sameM_up (by decide) (by decide)⟩)
abbrev chgP (X : gX) (a : Nat → Nat) (c : Nat → va_E) (t : QT) (k : QC) (o : QO) (l : QL) (p : QP) (d : QD) (b : QB) (r : List Nat) (x y z : Int32) : gO → (Nat → va_E) → Prop := pV (fun w => ((∃ j q, (j < t.1 ∧ x = nI j ∧ ¬ t.2.2 j = 0) ∧ (q < 3 ∧ y = nI q) ∧ isV z ∧ mdl X a w 0 (putT t j q z) k o l p (ntD d) (ntB b j) r) ∨ (¬ (rwI t x ∧ clI y) ∧ mdl X a w 1 t k o l p d b r) ∨ ((rwI t x ∧ clI y) ∧ ¬ isV z ∧ mdl X a w 2 t k o l p d b r)) ∧ sameM c w)
theorem m_chg32 (h : mdl X a c th t k o l p d b r) {x y z e : Int32} (he : ¬ e = 0) (hp : ∀ w, mdl X a w e t k o l p d b r → sameM c w → chgP X a c t k o l p d b r x y z (.inl none) w) : GW X a m_M_change 1 21 0 0 32 [(0, .ref (a 79)), (1, .int x), (2, .int y), (3, .int z)] [.int e, .ref (a 79)] c (chgP X a c t k o l p d b r x y z) := by
  obtain ⟨sc, hM⟩ := h.M
  refine w_putf p_M_72 d_M_change_32 hM rfl rfl (gqL rfl) (by decide) ?_
  refine w_aload_n d_M_change_35 rfl ?_
  refine w_getf g_M_72 d_M_change_36 va_s rfl (by decide) ?_
  refine w_if_ne 58 d_M_change_39 (by decide) (fun _ => ?_) (fun hn => absurd hn (he))
  exact w_vret d_M_change_58 rfl (hp _ h.thr1 (sameM_up (by decide) (by decide)))
theorem m_change (h : mdl X a c th t k o l p d b r) (ok : okQ n t k o l p d b r) {x y z : Int32} : GW X a m_M_change 1 21 0 0 0 (lv_args 0 [.ref (a 79), .int x, .int y, .int z]) [] c (chgP X a c t k o l p d b r x y z) := by
  have hi := ok.1
  obtain ⟨sc, hM⟩ := h.M
  refine w_aload_n d_M_change_0 rfl ?_
  refine w_aload_n d_M_change_1 rfl ?_
  refine w_iload_n d_M_change_2 rfl ?_
  refine w_vI [_] c_M_95 d_M_change_3 rfl hM (by decide) (m_isRow hM h.H hi) (fun x w hw => ?_) rfl rfl (gq rfl) (gq rfl) (gq rfl) (gq rfl) (gq rfl) (gq rfl)
  obtain ⟨h1, rfl⟩ := hw
  rcases h1 with ⟨rfl, j, j1, rfl, j2⟩ | ⟨rfl, j2⟩
  · -- case
    refine w_if_eq 16 d_M_change_6 (by decide) (fun hn => absurd hn ((by decide))) (fun _ => ?_)
    refine w_iload_n d_M_change_9 rfl ?_
    refine w_sI [_] c_M_98 d_M_change_10 (m_isCol) (fun x w hw => ?_) rfl rfl (gq rfl) (gq rfl) (gq rfl) (gq rfl) (gq rfl) (gq rfl)
    obtain ⟨h1, rfl⟩ := hw
    rcases h1 with ⟨rfl, q, q1, rfl⟩ | ⟨rfl, q1⟩
    · -- case
      refine w_if_ne 20 d_M_change_13 (by decide) (fun _ => ?_) (fun hn => absurd hn ((by decide)))
      refine w_iload_n d_M_change_20 rfl ?_
      refine w_sI [_] c_M_87 d_M_change_21 (m_isV) (fun x w hw => ?_) rfl rfl (gq rfl) (gq rfl) (gq rfl) (gq rfl) (gq rfl) (gq rfl)
      obtain ⟨h1, rfl⟩ := hw
      rcases h1 with ⟨rfl, v1⟩ | ⟨rfl, v1⟩
      · -- case
        refine w_if_ne 31 d_M_change_24 (by decide) (fun _ => ?_) (fun hn => absurd hn ((by decide)))
        refine w_iconst 0 d_M_change_31 (by decide) ?_
        refine w_putf p_M_72 d_M_change_32 hM rfl rfl (gqL rfl) (by decide) ?_
        refine w_aload_n d_M_change_35 rfl ?_
        refine w_getf g_M_72 d_M_change_36 va_s rfl (by decide) ?_
        refine w_if_ne 58 d_M_change_39 (by decide) (fun hn => absurd (rfl) hn) (fun _ => ?_)
        refine w_aload_n d_M_change_42 rfl ?_
        refine w_getf g_M_13 d_M_change_43 va_s rfl (by decide) ?_
        refine w_iconst 3 d_M_change_46 (by decide) ?_
        refine w_iload_n d_M_change_47 rfl ?_
        refine w_imul d_M_change_48 ?_
        refine w_iload_n d_M_change_49 rfl ?_
        refine w_iadd d_M_change_50 ?_
        rw [m3, nI_add]
        refine w_iload_n d_M_change_51 rfl ?_
        refine w_iast d_M_change_52 (va_n (by decide) h.V) rfl (by omega) (by decide) (by decide) ?_
        refine w_aload_n d_M_change_53 rfl ?_
        refine w_iload_n d_M_change_54 rfl ?_
        refine w_vV [_] c_M_91 d_M_change_55 rfl (va_n (by decide) va_s) (by decide) (m_note (row := j) (d := d) (b := b) (m := (0, sc)) (t := t) (o := o) (l := l) (p := p) (an := r.length) (va_n (by decide) va_s) (by omega) (by have := ok.2.2.2.2.2.2.1.2.1; omega) ok.2.2.2.2.2.2.1.1) (fun w hw => ?_) rfl rfl (gq rfl) (gq rfl) (gq rfl) (gq rfl) (gq rfl) (gq rfl)
        subst hw
        exact w_vret d_M_change_58 rfl (⟨rfl, Or.inl ⟨j, q, ⟨j1, rfl, j2⟩, ⟨q1, rfl⟩, v1, h.rows (same_trans (same_trans (same_up (by simp)) (same_up (by simp))) (same_up (by simp))) ⟨sc, rfl⟩ h.H rfl rfl rfl rfl⟩, sameM_t (sameM_t (sameM_up (by decide) (by decide)) (sameM_up (by decide) (by decide))) (sameM_up (by decide) (by decide))⟩)
      · -- case
        refine w_if_ne 31 d_M_change_24 (by decide) (fun hn => absurd (rfl) hn) (fun _ => ?_)
        refine w_iconst 2 d_M_change_27 (by decide) ?_
        refine w_goto 32 d_M_change_28 (by decide) ?_
        exact m_chg32 h (by decide) (fun w h1 h2 => ⟨rfl, Or.inr (Or.inr ⟨⟨⟨j, j1, rfl, j2⟩, q, q1, rfl⟩, v1, h1⟩), h2⟩)
    · -- case
      refine w_if_ne 20 d_M_change_13 (by decide) (fun hn => absurd (rfl) hn) (fun _ => ?_)
      refine w_iconst 1 d_M_change_16 (by decide) ?_
      refine w_goto 32 d_M_change_17 (by decide) ?_
      exact m_chg32 h (by decide) (fun w h1 h2 => ⟨rfl, Or.inr (Or.inl ⟨fun z => q1 z.2, h1⟩), h2⟩)
  · -- case
    refine w_if_eq 16 d_M_change_6 (by decide) (fun _ => ?_) (fun hn => absurd (rfl) hn)
    refine w_iconst 1 d_M_change_16 (by decide) ?_
    refine w_goto 32 d_M_change_17 (by decide) ?_
    exact m_chg32 h (by decide) (fun w h1 h2 => ⟨rfl, Or.inr (Or.inl ⟨fun z => j2 z.1, h1⟩), h2⟩)
abbrev valP (X : gX) (a : Nat → Nat) (c : Nat → va_E) (t : QT) (k : QC) (o : QO) (l : QL) (p : QP) (d : QD) (b : QB) (r : List Nat) (x y : Int32) : gO → (Nat → va_E) → Prop := pI (fun v w => ((∃ j q, (j < t.1 ∧ x = nI j ∧ ¬ t.2.2 j = 0) ∧ (q < 3 ∧ y = nI q) ∧ v = t.2.1 (3 * j + q) ∧ mdl X a w 0 t k o l p d b r) ∨ (¬ (rwI t x ∧ clI y) ∧ mdl X a w 1 t k o l p d b r)) ∧ sameM c w)
theorem m_val20 (h : mdl X a c th t k o l p d b r) {x y : Int32} (hn : ¬ (rwI t x ∧ clI y)) : GW X a m_M_value 1 21 0 0 20 [(0, .ref (a 79)), (1, .int x), (2, .int y)] [.ref (a 79)] c (valP X a c t k o l p d b r x y) := by
  obtain ⟨sc, hM⟩ := h.M
  refine w_iconst 1 d_M_value_20 (by decide) ?_
  refine w_putf p_M_72 d_M_value_21 hM rfl rfl (gqL rfl) (by decide) ?_
  refine w_aload_n d_M_value_24 rfl ?_
  refine w_getf g_M_72 d_M_value_25 va_s rfl (by decide) ?_
  refine w_if_le 35 d_M_value_28 (by decide) (fun hn => absurd hn ((by decide))) (fun _ => ?_)
  refine w_iconst 0 d_M_value_31 (by decide) ?_
  refine w_goto 45 d_M_value_32 (by decide) ?_
  exact w_iret d_M_value_45 rfl (⟨_, rfl, Or.inr ⟨hn, h.thr1⟩, sameM_up (by decide) (by decide)⟩)
theorem m_value (h : mdl X a c th t k o l p d b r) (ok : okQ n t k o l p d b r) {x y : Int32} : GW X a m_M_value 1 21 0 0 0 (lv_args 0 [.ref (a 79), .int x, .int y]) [] c (valP X a c t k o l p d b r x y) := by
  have hi := ok.1
  obtain ⟨sc, hM⟩ := h.M
  refine w_aload_n d_M_value_0 rfl ?_
  refine w_aload_n d_M_value_1 rfl ?_
  refine w_iload_n d_M_value_2 rfl ?_
  refine w_vI [_] c_M_95 d_M_value_3 rfl hM (by decide) (m_isRow hM h.H hi) (fun x w hw => ?_) rfl rfl (gq rfl) (gq rfl) (gq rfl) (gq rfl) (gq rfl) (gq rfl)
  obtain ⟨h1, rfl⟩ := hw
  rcases h1 with ⟨rfl, j, j1, rfl, j2⟩ | ⟨rfl, j2⟩
  · -- case
    refine w_if_eq 20 d_M_value_6 (by decide) (fun hn => absurd hn ((by decide))) (fun _ => ?_)
    refine w_iload_n d_M_value_9 rfl ?_
    refine w_sI [_] c_M_98 d_M_value_10 (m_isCol) (fun x w hw => ?_) rfl rfl (gq rfl) (gq rfl) (gq rfl) (gq rfl) (gq rfl) (gq rfl)
    obtain ⟨h1, rfl⟩ := hw
    rcases h1 with ⟨rfl, q, q1, rfl⟩ | ⟨rfl, q1⟩
    · -- case
      refine w_if_eq 20 d_M_value_13 (by decide) (fun hn => absurd hn ((by decide))) (fun _ => ?_)
      refine w_iconst 0 d_M_value_16 (by decide) ?_
      refine w_goto 21 d_M_value_17 (by decide) ?_
      refine w_putf p_M_72 d_M_value_21 hM rfl rfl (gqL rfl) (by decide) ?_
      refine w_aload_n d_M_value_24 rfl ?_
      refine w_getf g_M_72 d_M_value_25 va_s rfl (by decide) ?_
      refine w_if_le 35 d_M_value_28 (by decide) (fun _ => ?_) (fun hn => absurd ((by decide)) hn)
      refine w_aload_n d_M_value_35 rfl ?_
      refine w_getf g_M_13 d_M_value_36 va_s rfl (by decide) ?_
      refine w_iconst 3 d_M_value_39 (by decide) ?_
      refine w_iload_n d_M_value_40 rfl ?_
      refine w_imul d_M_value_41 ?_
      refine w_iload_n d_M_value_42 rfl ?_
      refine w_iadd d_M_value_43 ?_
      rw [m3, nI_add]
      refine w_iald d_M_value_44 (va_n (by decide) h.V) rfl (by omega) (by decide) (by decide) ?_
      exact w_iret d_M_value_45 rfl (⟨_, rfl, Or.inl ⟨j, q, ⟨j1, rfl, j2⟩, ⟨q1, rfl⟩, rfl, h.thr1⟩, sameM_up (by decide) (by decide)⟩)
    · -- case
      refine w_if_eq 20 d_M_value_13 (by decide) (fun _ => ?_) (fun hn => absurd (rfl) hn)
      exact m_val20 h (fun z => q1 z.2)
  · -- case
    refine w_if_eq 20 d_M_value_6 (by decide) (fun _ => ?_) (fun hn => absurd (rfl) hn)
    exact m_val20 h (fun z => j2 z.1)
theorem m_answer (h : mdl X a c th t k o l p d b r) (ok : okQ n t k o l p d b r) {x : Int32} : GW X a m_M_answer 0 0 0 0 0 (lv_args 0 [.ref (a 79), .int x]) [] c (pI (fun v w => ((∃ j, j < r.length ∧ x = nI j ∧ v = nI (r.getD j 0) ∧ mdl X a w 0 t k o l p d b r) ∨ (¬ (∃ j, j < r.length ∧ x = nI j) ∧ mdl X a w 1 t k o l p d b r)) ∧ sameM c w)) := by
  have hr := ok.2.2.2.2.2.2.2.1.1
  obtain ⟨sc, hM⟩ := h.M
  obtain ⟨fr, f1, f2⟩ := h.A
  refine w_aload_n d_M_answer_0 rfl ?_
  refine w_iload_n d_M_answer_1 rfl ?_
  refine w_if_lt 13 d_M_answer_2 (by decide) (fun h1 => ?_) (fun h1 => ?_)
  · -- taken
    refine w_iconst 1 d_M_answer_13 (by decide) ?_
    refine w_goto 18 d_M_answer_14 (by decide) ?_
    refine w_putf p_M_72 d_M_answer_18 hM rfl rfl (gqL rfl) (by decide) ?_
    refine w_aload_n d_M_answer_21 rfl ?_
    refine w_getf g_M_72 d_M_answer_22 va_s rfl (by decide) ?_
    refine w_if_le 32 d_M_answer_25 (by decide) (fun hn => absurd hn ((by decide))) (fun _ => ?_)
    refine w_iconst 0 d_M_answer_28 (by decide) ?_
    refine w_goto 38 d_M_answer_29 (by decide) ?_
    exact w_iret d_M_answer_38 rfl (⟨_, rfl, Or.inr ⟨fun z => by obtain ⟨j, hj, rfl⟩ := z; exact nI_n0 (by omega) h1, h.thr1⟩, sameM_up (by decide) (by decide)⟩)
  · -- not taken
    refine w_iload_n d_M_answer_5 rfl ?_
    refine w_aload_n d_M_answer_6 rfl ?_
    refine w_getf g_M_208 d_M_answer_7 hM rfl (by decide) ?_
    refine w_icmp_lt 17 d_M_answer_10 (by decide) (fun h2 => ?_) (fun h2 => ?_)
    · -- taken
      obtain ⟨j, hj, rfl⟩ := nn_lt h1 h2 (by omega)
      refine w_iconst 0 d_M_answer_17 (by decide) ?_
      refine w_putf p_M_72 d_M_answer_18 hM rfl rfl (gqL rfl) (by decide) ?_
      refine w_aload_n d_M_answer_21 rfl ?_
      refine w_getf g_M_72 d_M_answer_22 va_s rfl (by decide) ?_
      refine w_if_le 32 d_M_answer_25 (by decide) (fun _ => ?_) (fun hn => absurd ((by decide)) hn)
      refine w_aload_n d_M_answer_32 rfl ?_
      refine w_getf g_M_57 d_M_answer_33 va_s rfl (by decide) ?_
      refine w_iload_n d_M_answer_36 rfl ?_
      refine w_iald d_M_answer_37 (va_n (by decide) f1) rfl (by omega) (by decide) (by decide) ?_
      exact w_iret d_M_answer_38 rfl (⟨_, rfl, Or.inl ⟨j, hj, rfl, by have := f2 j hj; rw [Nat.zero_add] at this; exact this, h.thr1⟩, sameM_up (by decide) (by decide)⟩)
    · -- not taken
      refine w_iconst 1 d_M_answer_13 (by decide) ?_
      refine w_goto 18 d_M_answer_14 (by decide) ?_
      refine w_putf p_M_72 d_M_answer_18 hM rfl rfl (gqL rfl) (by decide) ?_
      refine w_aload_n d_M_answer_21 rfl ?_
      refine w_getf g_M_72 d_M_answer_22 va_s rfl (by decide) ?_
      refine w_if_le 32 d_M_answer_25 (by decide) (fun hn => absurd hn ((by decide))) (fun _ => ?_)
      refine w_iconst 0 d_M_answer_28 (by decide) ?_
      refine w_goto 38 d_M_answer_29 (by decide) ?_
      exact w_iret d_M_answer_38 rfl (⟨_, rfl, Or.inr ⟨fun z => by obtain ⟨j, hj, rfl⟩ := z; exact h2 (nI_lt hj (by omega)), h.thr1⟩, sameM_up (by decide) (by decide)⟩)
theorem m_shapes (h : mdl X a c th t k o l p d b r) : GW X a m_M_shapes 0 0 0 0 0 (lv_args 0 [.ref (a 79)]) [] c (pI (fun v w => v = nI d.1 ∧ mdl X a w 0 t k o l p d b r ∧ sameM c w)) := by
  obtain ⟨sc, hM⟩ := h.M
  refine w_aload_n d_M_shapes_0 rfl ?_
  refine w_iconst 0 d_M_shapes_1 (by decide) ?_
  refine w_putf p_M_72 d_M_shapes_2 hM rfl rfl (gqL rfl) (by decide) ?_
  refine w_aload_n d_M_shapes_5 rfl ?_
  refine w_getf g_M_187 d_M_shapes_6 va_s rfl (by decide) ?_
  exact w_iret d_M_shapes_9 rfl (⟨_, rfl, rfl, h.thr1, sameM_up (by decide) (by decide)⟩)
theorem m_changes (h : mdl X a c th t k o l p d b r) : GW X a m_M_changes 0 0 0 0 0 (lv_args 0 [.ref (a 79)]) [] c (pI (fun v w => v = nI d.2.1 ∧ mdl X a w 0 t k o l p d b r ∧ sameM c w)) := by
  obtain ⟨sc, hM⟩ := h.M
  refine w_aload_n d_M_changes_0 rfl ?_
  refine w_iconst 0 d_M_changes_1 (by decide) ?_
  refine w_putf p_M_72 d_M_changes_2 hM rfl rfl (gqL rfl) (by decide) ?_
  refine w_aload_n d_M_changes_5 rfl ?_
  refine w_getf g_M_78 d_M_changes_6 va_s rfl (by decide) ?_
  exact w_iret d_M_changes_9 rfl (⟨_, rfl, rfl, h.thr1, sameM_up (by decide) (by decide)⟩)
theorem m_bud12 (h : mdl X a c th t k o l p d b r) {x : Int32} : GW X a m_M_budget 0 0 0 0 12 [(0, .ref (a 79)), (1, .int x)] [.ref (a 79)] c (pV (fun w => mdl X a w 1 t k o l p d b r ∧ sameM c w)) := by
  obtain ⟨sc, hM⟩ := h.M
  refine w_iconst 1 d_M_budget_12 (by decide) ?_
  refine w_goto 17 d_M_budget_13 (by decide) ?_
  refine w_putf p_M_72 d_M_budget_17 hM rfl rfl (gqL rfl) (by decide) ?_
  refine w_aload_n d_M_budget_20 rfl ?_
  refine w_aload_n d_M_budget_21 rfl ?_
  refine w_getf g_M_72 d_M_budget_22 va_s rfl (by decide) ?_
  refine w_if_le 35 d_M_budget_25 (by decide) (fun hn => absurd hn ((by decide))) (fun _ => ?_)
  refine w_aload_n d_M_budget_28 rfl ?_
  refine w_getf g_M_48 d_M_budget_29 va_s rfl (by decide) ?_
  refine w_goto 36 d_M_budget_32 (by decide) ?_
  refine w_putf p_M_48 d_M_budget_36 va_s rfl rfl (gqL rfl) (by decide) ?_
  exact w_vret d_M_budget_39 rfl (⟨rfl, h.fld (same_trans (same_up (by simp)) (same_up (by simp))) ⟨sc, rfl⟩ rfl, sameM_t (sameM_up (by decide) (by decide)) (sameM_up (by decide) (by decide))⟩)
theorem m_budget (h : mdl X a c th t k o l p d b r) {x : Int32} : GW X a m_M_budget 0 0 0 0 0 (lv_args 0 [.ref (a 79), .int x]) [] c (pV (fun w => ((∃ m, m ≤ 200 ∧ x = nI m ∧ mdl X a w 0 t k (o.1, o.2.1, m) l p d b r) ∨ (¬ (∃ m, m ≤ 200 ∧ x = nI m) ∧ mdl X a w 1 t k o l p d b r)) ∧ sameM c w)) := by
  obtain ⟨sc, hM⟩ := h.M
  refine w_aload_n d_M_budget_0 rfl ?_
  refine w_iload_n d_M_budget_1 rfl ?_
  refine w_if_lt 12 d_M_budget_2 (by decide) (fun h1 => ?_) (fun h1 => ?_)
  · -- taken
    exact w_post (fun r w hw => ⟨hw.1, Or.inr ⟨fun z => by obtain ⟨m, hm, rfl⟩ := z; exact nI_n0 (by omega) h1, hw.2.1⟩, hw.2.2⟩) (m_bud12 h)
  · -- not taken
    refine w_iload_n d_M_budget_5 rfl ?_
    refine w_sipush 200 d_M_budget_6 (by decide) ?_
    refine w_icmp_le 16 d_M_budget_9 (by decide) (fun h2 => ?_) (fun h2 => ?_)
    · -- taken
      obtain ⟨m, hm, rfl⟩ := nn_le (n := 200) h1 h2 (by decide)
      refine w_iconst 0 d_M_budget_16 (by decide) ?_
      refine w_putf p_M_72 d_M_budget_17 hM rfl rfl (gqL rfl) (by decide) ?_
      refine w_aload_n d_M_budget_20 rfl ?_
      refine w_aload_n d_M_budget_21 rfl ?_
      refine w_getf g_M_72 d_M_budget_22 va_s rfl (by decide) ?_
      refine w_if_le 35 d_M_budget_25 (by decide) (fun _ => ?_) (fun hn => absurd ((by decide)) hn)
      refine w_iload_n d_M_budget_35 rfl ?_
      refine w_putf p_M_48 d_M_budget_36 va_s rfl rfl (gqL rfl) (by decide) ?_
      exact w_vret d_M_budget_39 rfl (⟨rfl, Or.inl ⟨m, hm, rfl, h.fld (same_trans (same_up (by simp)) (same_up (by simp))) ⟨sc, rfl⟩ rfl⟩, sameM_t (sameM_up (by decide) (by decide)) (sameM_up (by decide) (by decide))⟩)
    · -- not taken
      exact w_post (fun r w hw => ⟨hw.1, Or.inr ⟨fun z => by obtain ⟨m, hm, rfl⟩ := z; exact h2 (nI_le (b := 200) hm (by decide)), hw.2.1⟩, hw.2.2⟩) (m_bud12 h)
theorem m_last10 (h : mdl X a c th t k o l p d b r) {x : Int32} : GW X a m_M_last 0 0 0 0 10 [(0, .ref (a 79)), (1, .int x)] [.ref (a 79)] c (pI (fun _ w => mdl X a w 1 t k o l p d b r ∧ sameM c w)) := by
  obtain ⟨sc, hM⟩ := h.M
  refine w_iconst 1 d_M_last_10 (by decide) ?_
  refine w_goto 15 d_M_last_11 (by decide) ?_
  refine w_putf p_M_72 d_M_last_15 hM rfl rfl (gqL rfl) (by decide) ?_
  refine w_aload_n d_M_last_18 rfl ?_
  refine w_getf g_M_72 d_M_last_19 va_s rfl (by decide) ?_
  refine w_if_le 27 d_M_last_22 (by decide) (fun hn => absurd hn ((by decide))) (fun _ => ?_)
  refine w_iconst 0 d_M_last_25 (by decide) ?_
  exact w_iret d_M_last_26 rfl (⟨_, rfl, h.thr1, sameM_up (by decide) (by decide)⟩)
theorem m_last (h : mdl X a c th t k o l p d b r) {x : Int32} : GW X a m_M_last 0 0 0 0 0 (lv_args 0 [.ref (a 79), .int x]) [] c (pI (fun v w => ((((x = 0 ∧ v = oI l.1) ∨ (x = 1 ∧ v = l.2) ∨ (x = 2 ∧ v = nI p.2.2.2.2.1) ∨ (x = 3 ∧ v = nI p.2.2.2.2.2)) ∧ mdl X a w 0 t k o l p d b r) ∨ (¬ (x = 0 ∨ x = 1 ∨ x = 2 ∨ x = 3) ∧ mdl X a w 1 t k o l p d b r)) ∧ sameM c w)) := by
  obtain ⟨sc, hM⟩ := h.M
  refine w_aload_n d_M_last_0 rfl ?_
  refine w_iload_n d_M_last_1 rfl ?_
  refine w_if_lt 10 d_M_last_2 (by decide) (fun h1 => ?_) (fun h1 => ?_)
  · -- taken
    refine w_post (fun r w hw => ?_) (m_last10 h)
    obtain ⟨v, e1, e2, e3⟩ := hw
    exact ⟨v, e1, Or.inr ⟨fun z => by rcases z with rfl | rfl | rfl | rfl <;> exact absurd h1 (by decide), e2⟩, e3⟩
  · -- not taken
    refine w_iload_n d_M_last_5 rfl ?_
    refine w_iconst 3 d_M_last_6 (by decide) ?_
    refine w_icmp_le 14 d_M_last_7 (by decide) (fun h2 => ?_) (fun h2 => ?_)
    · -- taken
      obtain ⟨j, hj, rfl⟩ := nn_le (n := 3) h1 h2 (by decide)
      have hj4 : j = 0 ∨ j = 1 ∨ j = 2 ∨ j = 3 := by omega
      refine w_iconst 0 d_M_last_14 (by decide) ?_
      refine w_putf p_M_72 d_M_last_15 hM rfl rfl (gqL rfl) (by decide) ?_
      refine w_aload_n d_M_last_18 rfl ?_
      refine w_getf g_M_72 d_M_last_19 va_s rfl (by decide) ?_
      refine w_if_le 27 d_M_last_22 (by decide) (fun _ => ?_) (fun hn => absurd ((by decide)) hn)
      rcases hj4 with rfl | rfl | rfl | rfl
      · -- case
        refine w_iload_n d_M_last_27 rfl ?_
        refine w_if_ne 38 d_M_last_28 (by decide) (fun hn => absurd (rfl) hn) (fun _ => ?_)
        refine w_aload_n d_M_last_31 rfl ?_
        refine w_getf g_M_60 d_M_last_32 va_s rfl (by decide) ?_
        refine w_goto 66 d_M_last_35 (by decide) ?_
        exact w_iret d_M_last_66 rfl (⟨_, rfl, Or.inl ⟨Or.inl ⟨rfl, rfl⟩, h.thr1⟩, sameM_up (by decide) (by decide)⟩)
      · -- case
        refine w_iload_n d_M_last_27 rfl ?_
        refine w_if_ne 38 d_M_last_28 (by decide) (fun _ => ?_) (fun hn => absurd hn ((by decide)))
        refine w_iload_n d_M_last_38 rfl ?_
        refine w_iconst 1 d_M_last_39 (by decide) ?_
        refine w_icmp_ne 50 d_M_last_40 (by decide) (fun hn => absurd (rfl) hn) (fun _ => ?_)
        refine w_aload_n d_M_last_43 rfl ?_
        refine w_getf g_M_202 d_M_last_44 va_s rfl (by decide) ?_
        refine w_goto 66 d_M_last_47 (by decide) ?_
        exact w_iret d_M_last_66 rfl (⟨_, rfl, Or.inl ⟨Or.inr (Or.inl ⟨rfl, rfl⟩), h.thr1⟩, sameM_up (by decide) (by decide)⟩)
      · -- case
        refine w_iload_n d_M_last_27 rfl ?_
        refine w_if_ne 38 d_M_last_28 (by decide) (fun _ => ?_) (fun hn => absurd hn ((by decide)))
        refine w_iload_n d_M_last_38 rfl ?_
        refine w_iconst 1 d_M_last_39 (by decide) ?_
        refine w_icmp_ne 50 d_M_last_40 (by decide) (fun _ => ?_) (fun hn => absurd hn ((by decide)))
        refine w_iload_n d_M_last_50 rfl ?_
        refine w_iconst 2 d_M_last_51 (by decide) ?_
        refine w_icmp_ne 62 d_M_last_52 (by decide) (fun hn => absurd (rfl) hn) (fun _ => ?_)
        refine w_aload_n d_M_last_55 rfl ?_
        refine w_getf g_M_171 d_M_last_56 va_s rfl (by decide) ?_
        refine w_goto 66 d_M_last_59 (by decide) ?_
        exact w_iret d_M_last_66 rfl (⟨_, rfl, Or.inl ⟨Or.inr (Or.inr (Or.inl ⟨rfl, rfl⟩)), h.thr1⟩, sameM_up (by decide) (by decide)⟩)
      · -- case
        refine w_iload_n d_M_last_27 rfl ?_
        refine w_if_ne 38 d_M_last_28 (by decide) (fun _ => ?_) (fun hn => absurd hn ((by decide)))
        refine w_iload_n d_M_last_38 rfl ?_
        refine w_iconst 1 d_M_last_39 (by decide) ?_
        refine w_icmp_ne 50 d_M_last_40 (by decide) (fun _ => ?_) (fun hn => absurd hn ((by decide)))
        refine w_iload_n d_M_last_50 rfl ?_
        refine w_iconst 2 d_M_last_51 (by decide) ?_
        refine w_icmp_ne 62 d_M_last_52 (by decide) (fun _ => ?_) (fun hn => absurd hn ((by decide)))
        refine w_aload_n d_M_last_62 rfl ?_
        refine w_getf g_M_174 d_M_last_63 va_s rfl (by decide) ?_
        exact w_iret d_M_last_66 rfl (⟨_, rfl, Or.inl ⟨Or.inr (Or.inr (Or.inr ⟨rfl, rfl⟩)), h.thr1⟩, sameM_up (by decide) (by decide)⟩)
    · -- not taken
      refine w_post (fun r w hw => ?_) (m_last10 h)
      obtain ⟨v, e1, e2, e3⟩ := hw
      exact ⟨v, e1, Or.inr ⟨fun z => by rcases z with rfl | rfl | rfl | rfl <;> exact absurd h2 (by decide), e2⟩, e3⟩
end MQ
