/-! The model: rows -/
section MR
variable {X : gX} {a : Nat → Nat} {c w : Nat → va_E} {m : QM} {t : QT} {k : QC} {o : QO} {l : QL} {p : QP} {d : QD} {b : QB} {an n : Nat}
theorem m_note {row : Nat} (hM : c 79 = oM a m t o l p d b an) (hr : row < 64) (hh : b.2.1 ≤ 64) (hbl : ∀ j, b.1 = some j → j < 9) : GW X a m_M_note 0 0 0 0 0 (lv_args 0 [.ref (a 79), .int (nI row)]) [] c (pV (eV (va_up c 79 (oM a m t o l p (ntD d) (ntB b row) an)))) := by
  have e4 : nI d.2.1 + 4 = nI (d.2.1 + 4) := by rw [show (4 : Int32) = nI 4 from rfl, nI_add]
  have hno : ¬ (b.1.isSome = true ∧ row < b.2.1) → oM a m t o l p (ntD d) (ntB b row) an = oM a m t o l p (ntD d) b an := fun z => by unfold ntB; rw [if_neg z]
  refine w_aload_n d_M_note_0 rfl ?_
  refine w_aload_n d_M_note_1 rfl ?_
  refine w_getf g_M_78 d_M_note_2 hM rfl (by decide) ?_
  refine w_iconst 4 d_M_note_5 (by decide) ?_
  refine w_iadd d_M_note_6 ?_
  rw [e4]
  refine w_putf p_M_78 d_M_note_7 hM rfl rfl (gqL rfl) (by decide) ?_
  refine w_aload_n d_M_note_10 rfl ?_
  refine w_getf g_M_26 d_M_note_11 va_s rfl (by decide) ?_
  rcases opt_or b.1 with hb | ⟨j, hb⟩
  · -- case
    refine w_if_lt 35 d_M_note_14 (by decide) (fun _ => ?_) (fun hn => absurd ((by rw [hb]; decide)) hn)
    have e := hno (fun z => by rw [hb] at z; exact absurd z.1 (by decide))
    exact w_vret d_M_note_35 rfl (⟨rfl, congrArg (va_up c 79) e⟩)
  · -- case
    refine w_if_lt 35 d_M_note_14 (by decide) (fun hn => absurd hn ((by rw [hb]; exact nI_n0 (by have := hbl j hb; omega)))) (fun _ => ?_)
    refine w_iload_n d_M_note_17 rfl ?_
    refine w_aload_n d_M_note_18 rfl ?_
    refine w_getf g_M_81 d_M_note_19 va_s rfl (by decide) ?_
    refine w_icmp_ge 35 d_M_note_22 (by decide) (fun h1 => ?_) (fun h1 => ?_)
    · -- taken
      have e := hno (fun z => absurd ((nI_leI (by omega) (by omega)).mp h1) (by omega))
      exact w_vret d_M_note_35 rfl (⟨rfl, congrArg (va_up c 79) e⟩)
    · -- not taken
      have hlt : row < b.2.1 := (nI_ltI (by omega) (by omega)).mp (nle_lt h1)
      have e : oM a m t o l p (ntD d) (ntB b row) an = oM a m t o l p (ntD d) (b.1, b.2.1, b.2.2.1 + 1, b.2.2.2) an := by unfold ntB; rw [if_pos ⟨by rw [hb]; rfl, hlt⟩]
      refine w_aload_n d_M_note_25 rfl ?_
      refine w_dup d_M_note_26 rfl ?_
      refine w_getf g_M_84 d_M_note_27 va_s rfl (by decide) ?_
      refine w_iconst 1 d_M_note_30 (by decide) ?_
      refine w_iadd d_M_note_31 ?_
      rw [nI_1]
      refine w_putf p_M_84 d_M_note_32 va_s rfl rfl (gqL rfl) (by decide) ?_
      rw [bx_uu]
      exact w_vret d_M_note_35 rfl (⟨rfl, congrArg (va_up c 79) e⟩)
end MR
section MI
variable {X : gX} {a : Nat → Nat} {c w : Nat → va_E} {th : Int32} {t : QT} {k : QC} {o : QO} {l : QL} {p : QP} {d : QD} {b : QB} {r : List Nat} {n : Nat}
theorem m_insert (h : mdl X a c th t k o l p d b r) (ok : okQ n t k o l p d b r) {x y z : Int32} : GW X a m_M_insert 1 21 0 0 0 (lv_args 0 [.ref (a 79), .int x, .int y, .int z]) [] c (pI (fun v w => (((isV x ∧ isV y ∧ isV z) ∧ t.1 < 64 ∧ v = nI t.1 ∧ mdl X a w 0 (insT t x y z) k o l p (ntD d) (ntB b t.1) r) ∨ (¬ (isV x ∧ isV y ∧ isV z) ∧ mdl X a w 1 t k o l p d b r) ∨ ((isV x ∧ isV y ∧ isV z) ∧ t.1 = 64 ∧ mdl X a w 2 t k o l p d b r)) ∧ sameM c w)) := by
  have hi := ok.1
  obtain ⟨sc, hM⟩ := h.M
  have key : ∀ e : Int32, ¬ e ≤ 0 → GW X a m_M_insert 1 21 0 0 40 [(0, .ref (a 79)), (1, .int x), (2, .int y), (3, .int z)] [.int e, .ref (a 79)] c (pI (fun _ w => va_up c 79 (oM a (e, sc) t o l p d b r.length) = w)) := by
    intro e he
    refine w_putf p_M_72 d_M_insert_40 hM rfl rfl (gqL rfl) (by decide) ?_
    refine w_aload_n d_M_insert_43 rfl ?_
    refine w_getf g_M_72 d_M_insert_44 va_s rfl (by decide) ?_
    refine w_if_le 52 d_M_insert_47 (by decide) (fun hn => absurd hn (he)) (fun _ => ?_)
    refine w_iconst 0 d_M_insert_50 (by decide) ?_
    exact w_iret d_M_insert_51 rfl (⟨_, rfl, rfl⟩)
  have bad : ¬ (isV x ∧ isV y ∧ isV z) → GW X a m_M_insert 1 21 0 0 22 [(0, .ref (a 79)), (1, .int x), (2, .int y), (3, .int z)] [.ref (a 79)] c (pI (fun v w => (((isV x ∧ isV y ∧ isV z) ∧ t.1 < 64 ∧ v = nI t.1 ∧ mdl X a w 0 (insT t x y z) k o l p (ntD d) (ntB b t.1) r) ∨ (¬ (isV x ∧ isV y ∧ isV z) ∧ mdl X a w 1 t k o l p d b r) ∨ ((isV x ∧ isV y ∧ isV z) ∧ t.1 = 64 ∧ mdl X a w 2 t k o l p d b r)) ∧ sameM c w)) := by
    intro hb
    refine w_iconst 1 d_M_insert_22 (by decide) ?_
    refine w_goto 40 d_M_insert_23 (by decide) ?_
    refine w_post (fun r w hw => ?_) (key 1 (by decide))
    obtain ⟨v, e1, e2⟩ := hw
    subst e2
    exact ⟨v, e1, Or.inr (Or.inl ⟨hb, h.thr1⟩), sameM_up (by decide) (by decide)⟩
  refine w_aload_n d_M_insert_0 rfl ?_
  refine w_iload_n d_M_insert_1 rfl ?_
  refine w_sI [_] c_M_87 d_M_insert_2 (m_isV) (fun x w hw => ?_) rfl rfl (gq rfl) (gq rfl) (gq rfl) (gq rfl) (gq rfl) (gq rfl)
  obtain ⟨h1, rfl⟩ := hw
  rcases h1 with ⟨rfl, v1⟩ | ⟨rfl, v1⟩
  · --
    refine w_if_eq 22 d_M_insert_5 (by decide) (fun hn => absurd hn ((by decide))) (fun _ => ?_)
    refine w_iload_n d_M_insert_8 rfl ?_
    refine w_sI [_] c_M_87 d_M_insert_9 (m_isV) (fun x w hw => ?_) rfl rfl (gq rfl) (gq rfl) (gq rfl) (gq rfl) (gq rfl) (gq rfl)
    obtain ⟨h1, rfl⟩ := hw
    rcases h1 with ⟨rfl, v2⟩ | ⟨rfl, v2⟩
    · --
      refine w_if_eq 22 d_M_insert_12 (by decide) (fun hn => absurd hn ((by decide))) (fun _ => ?_)
      refine w_iload_n d_M_insert_15 rfl ?_
      refine w_sI [_] c_M_87 d_M_insert_16 (m_isV) (fun x w hw => ?_) rfl rfl (gq rfl) (gq rfl) (gq rfl) (gq rfl) (gq rfl) (gq rfl)
      obtain ⟨h1, rfl⟩ := hw
      rcases h1 with ⟨rfl, v3⟩ | ⟨rfl, v3⟩
      · --
        refine w_if_ne 26 d_M_insert_19 (by decide) (fun _ => ?_) (fun hn => absurd hn ((by decide)))
        refine w_aload_n d_M_insert_26 rfl ?_
        refine w_getf g_M_75 d_M_insert_27 hM rfl (by decide) ?_
        refine w_bipush 64 d_M_insert_30 (by decide) ?_
        refine w_icmp_ne 39 d_M_insert_32 (by decide) (fun h6 => ?_) (fun h6 => ?_)
        · -- taken
          have h64 : t.1 < 64 := by have : ¬ t.1 = 64 := fun z => h6 (by rw [z]; rfl); omega
          refine w_iconst 0 d_M_insert_39 (by decide) ?_
          refine w_putf p_M_72 d_M_insert_40 hM rfl rfl (gqL rfl) (by decide) ?_
          refine w_aload_n d_M_insert_43 rfl ?_
          refine w_getf g_M_72 d_M_insert_44 va_s rfl (by decide) ?_
          refine w_if_le 52 d_M_insert_47 (by decide) (fun _ => ?_) (fun hn => absurd ((by decide)) hn)
          refine w_aload_n d_M_insert_52 rfl ?_
          refine w_getf g_M_75 d_M_insert_53 va_s rfl (by decide) ?_
          refine w_istore d_M_insert_56 (by decide) ?_
          refine w_aload_n d_M_insert_58 rfl ?_
          refine w_getf g_M_13 d_M_insert_59 va_s rfl (by decide) ?_
          refine w_iconst 3 d_M_insert_62 (by decide) ?_
          refine w_iload d_M_insert_63 rfl ?_
          refine w_imul d_M_insert_65 ?_
          rw [m3]
          refine w_iload_n d_M_insert_66 rfl ?_
          refine w_iast d_M_insert_67 (va_n (by decide) h.V) rfl (by omega) (by decide) (by decide) ?_
          refine w_aload_n d_M_insert_68 rfl ?_
          refine w_getf g_M_13 d_M_insert_69 (va_n (by decide) va_s) rfl (by decide) ?_
          refine w_iconst 3 d_M_insert_72 (by decide) ?_
          refine w_iload d_M_insert_73 rfl ?_
          refine w_imul d_M_insert_75 ?_
          refine w_iconst 1 d_M_insert_76 (by decide) ?_
          refine w_iadd d_M_insert_77 ?_
          rw [m3, nI_1]
          refine w_iload_n d_M_insert_78 rfl ?_
          refine w_iast d_M_insert_79 va_s rfl (by omega) (by decide) (by decide) ?_
          refine w_aload_n d_M_insert_80 rfl ?_
          refine w_getf g_M_13 d_M_insert_81 (va_n (by decide) (va_n (by decide) va_s)) rfl (by decide) ?_
          refine w_iconst 3 d_M_insert_84 (by decide) ?_
          refine w_iload d_M_insert_85 rfl ?_
          refine w_imul d_M_insert_87 ?_
          refine w_iconst 2 d_M_insert_88 (by decide) ?_
          refine w_iadd d_M_insert_89 ?_
          rw [m3, show (2 : Int32) = nI 2 from rfl, nI_add]
          refine w_iload_n d_M_insert_90 rfl ?_
          refine w_iast d_M_insert_91 va_s rfl (by omega) (by decide) (by decide) ?_
          rw [bx_uu, bx_uu]
          refine w_aload_n d_M_insert_92 rfl ?_
          refine w_getf g_M_7 d_M_insert_93 (va_n (by decide) va_s) rfl (by decide) ?_
          refine w_iload d_M_insert_96 rfl ?_
          refine w_iconst 1 d_M_insert_98 (by decide) ?_
          refine w_zast d_M_insert_99 (va_n (by decide) (va_n (by decide) h.H)) rfl (by omega) (by decide) (by decide) (by decide) ?_
          refine w_aload_n d_M_insert_100 rfl ?_
          refine w_dup d_M_insert_101 rfl ?_
          refine w_getf g_M_75 d_M_insert_102 (va_n (by decide) (va_n (by decide) va_s)) rfl (by decide) ?_
          refine w_iconst 1 d_M_insert_105 (by decide) ?_
          refine w_iadd d_M_insert_106 ?_
          rw [nI_1]
          refine w_putf p_M_75 d_M_insert_107 (va_n (by decide) (va_n (by decide) va_s)) rfl rfl (gqL rfl) (by decide) ?_
          refine w_aload_n d_M_insert_110 rfl ?_
          refine w_iload d_M_insert_111 rfl ?_
          refine w_vV [_] c_M_91 d_M_insert_113 rfl va_s (by decide) (m_note (row := t.1) (d := d) (b := b) (m := (0, sc)) (t := (t.1 + 1, t.2.1, t.2.2)) (o := o) (l := l) (p := p) (an := r.length) va_s (by omega) (by have := ok.2.2.2.2.2.2.1.2.1; omega) ok.2.2.2.2.2.2.1.1) (fun w hw => ?_) rfl rfl (gq rfl) (gq rfl) (gq rfl) (gq rfl) (gq rfl) (gq rfl)
          subst hw
          rw [bx_uu]
          refine w_iload d_M_insert_116 rfl ?_
          refine w_iret d_M_insert_118 rfl ⟨_, rfl, Or.inl ⟨⟨v1, v2, v3⟩, h64, rfl, ?_⟩, ?_⟩
          · refine h.part (L := [79, 80, 81]) ?_ ⟨sc, ?_⟩ (Or.inr ?_) (Or.inr ?_) ⟨by decide, by decide⟩ (Or.inl ⟨by decide, rfl⟩) (Or.inl ⟨by decide, by decide, by decide, rfl, rfl, rfl⟩) (Or.inl ⟨by decide, rfl, rfl⟩) (Or.inl ⟨by decide, by decide, rfl, rfl, rfl⟩) (Or.inl ⟨by decide, rfl⟩) (Or.inl ⟨by decide, by decide⟩)
            · intro q hq; simp at hq; rw [va_n (by omega) rfl, va_n (by omega) rfl, va_n (by omega) rfl, va_n (by omega) rfl]
            · rfl
            · rfl
            · rfl
          · intro q hq; rw [va_n (by omega) rfl, va_n (by omega) rfl, va_n (by omega) rfl, va_n (by omega) rfl]
        · -- not taken
          have h64 : t.1 = 64 := (nI_eq (by omega) (by decide)).mp h6
          refine w_iconst 2 d_M_insert_35 (by decide) ?_
          refine w_goto 40 d_M_insert_36 (by decide) ?_
          refine w_post (fun r w hw => ?_) (key 2 (by decide))
          obtain ⟨v, e1, e2⟩ := hw
          subst e2
          exact ⟨v, e1, Or.inr (Or.inr ⟨⟨v1, v2, v3⟩, h64, h.thr1⟩), sameM_up (by decide) (by decide)⟩
      · --
        refine w_if_ne 26 d_M_insert_19 (by decide) (fun hn => absurd (rfl) hn) (fun _ => ?_)
        exact bad (fun z => v3 z.2.2)
    · --
      refine w_if_eq 22 d_M_insert_12 (by decide) (fun _ => ?_) (fun hn => absurd (rfl) hn)
      exact bad (fun z => v2 z.2.1)
  · --
    refine w_if_eq 22 d_M_insert_5 (by decide) (fun _ => ?_) (fun hn => absurd (rfl) hn)
    exact bad (fun z => v1 z.1)
end MI
