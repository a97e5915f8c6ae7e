/-! The model: fits, isWay, countsSecond, isAhead, isIn, stretch -/
def mq (X : gX) (c : Nat → va_E) (t : QT) (q : Nat) (k : QC) : Prop := c 80 = aZ X 64 t.2.2 ∧ c 81 = aI X 192 t.2.1 ∧ mF X c ∧ ∃ KK FF TT, c 85 = aI X 27 KK ∧ c 86 = aI X 27 FF ∧ c 87 = aI X 27 TT ∧ mcA KK FF TT q k
theorem mq.keep {X : gX} {c w : Nat → va_E} {t : QT} {q : Nat} {k : QC} (h : mq X c t q k) {L : List Nat} (hs : same c w L) (hL : ∀ x ∈ L, x = 79 ∨ 89 ≤ x) : mq X w t q k := by
  have f : ∀ q, 80 ≤ q → q ≤ 88 → w q = c q := fun q h1 h2 => hs q (fun z => by have := hL q z; omega)
  obtain ⟨h1, h2, h3, KK, FF, TT, h4, h5, h6, h7⟩ := h
  exact ⟨(f _ (by decide) (by decide)).trans h1, (f _ (by decide) (by decide)).trans h2, h3.keep (f _ (by decide) (by decide)) (f _ (by decide) (by decide)), KK, FF, TT, (f _ (by decide) (by decide)).trans h4, (f _ (by decide) (by decide)).trans h5, (f _ (by decide) (by decide)).trans h6, h7⟩
theorem mdl.q {X : gX} {a : Nat → Nat} {c : Nat → va_E} {th : Int32} {t : QT} {k : QC} {o : QO} {l : QL} {p : QP} {d : QD} {b : QB} {r : List Nat} (h : mdl X a c th t k o l p d b r) {q : Nat} (hq : q ≤ d.1) : mq X c t q (cdQ k d q) := by
  obtain ⟨KK, FF, TT, h4, h5, h6, h7⟩ := h.C
  exact ⟨h.H, h.V, h.F, KK, FF, TT, h4, h5, h6, h7 q hq⟩
theorem colN {v : Nat → Int32} {x j : Nat} (hj : j < 3) : colV v x (nI j) = v (3 * x + j) := by rw [colV, if_neg (nI_neg (by omega)), nI_clamp (by omega)]
section MW
variable {X : gX} {a : Nat → Nat} {c w : Nat → va_E} {m : QM} {t : QT} {k : QC} {o : QO} {l : QL} {p : QP} {d : QD} {b : QB} {an n q : Nat}
theorem m_fits {x j : Nat} (hM : c 79 = oM a m t o l p d b an) (hQ : mq X c t q k) (hq : q ≤ 8) (hx : x < 64) (hj : j < 3) : GW X a m_M_fits 1 22 0 0 0 (lv_args 0 [.ref (a 79), .int (nI x), .int (nI q), .int (nI j)]) [] c (pI (eI (bI (fitB k.1 k.2.1 k.2.2 j (colV t.2.1 x (nI j)))) c)) := by
  obtain ⟨h1, h2, h3, KK, FF, TT, h4, h5, h6, h7⟩ := hQ
  obtain ⟨e1, e2, e3⟩ := h7 j hj
  refine w_aload_n d_M_fits_0 rfl ?_
  refine w_iload_n d_M_fits_1 rfl ?_
  refine w_iload_n d_M_fits_2 rfl ?_
  refine w_vI [_, _] c_M_101 d_M_fits_3 rfl hM (by decide) (m_of hM h2 hx (Or.inr ⟨j, hj, rfl⟩)) (fun x w hw => ?_) rfl rfl (gq rfl) (gq rfl) (gq rfl) (gq rfl) (gq rfl) (gq rfl)
  obtain ⟨rfl, rfl⟩ := hw
  refine w_istore d_M_fits_6 (by decide) ?_
  refine w_aload_n d_M_fits_8 rfl ?_
  refine w_getf g_M_30 d_M_fits_9 hM rfl (by decide) ?_
  refine w_iconst 3 d_M_fits_12 (by decide) ?_
  refine w_iload_n d_M_fits_13 rfl ?_
  refine w_imul d_M_fits_14 ?_
  refine w_iload_n d_M_fits_15 rfl ?_
  refine w_iadd d_M_fits_16 ?_
  rw [m3, nI_add]
  refine w_iald d_M_fits_17 h4 rfl (by omega) (by decide) (by decide) ?_
  rw [e1]
  refine w_istore d_M_fits_18 (by decide) ?_
  refine w_iload d_M_fits_20 rfl ?_
  refine w_if_eq 74 d_M_fits_22 (by decide) (fun k0 => ?_) (fun k0 => ?_)
  · -- taken
    refine w_iconst 1 d_M_fits_74 (by decide) ?_
    refine w_goto 79 d_M_fits_75 (by decide) ?_
    exact w_zret (Or.inr rfl) d_M_fits_79 rfl ( ⟨_, rfl, by unfold fitB; rw [decide_eq_true k0]; rfl, rfl⟩)
  · -- not taken
    refine w_iload d_M_fits_25 rfl ?_
    refine w_aload_n d_M_fits_27 rfl ?_
    refine w_getf g_M_33 d_M_fits_28 hM rfl (by decide) ?_
    refine w_iconst 3 d_M_fits_31 (by decide) ?_
    refine w_iload_n d_M_fits_32 rfl ?_
    refine w_imul d_M_fits_33 ?_
    refine w_iload_n d_M_fits_34 rfl ?_
    refine w_iadd d_M_fits_35 ?_
    rw [m3, nI_add]
    refine w_iald d_M_fits_36 h5 rfl (by omega) (by decide) (by decide) ?_
    rw [e2]
    refine w_icmp_lt 78 d_M_fits_37 (by decide) (fun k1 => ?_) (fun k1 => ?_)
    · -- taken
      refine w_iconst 0 d_M_fits_78 (by decide) ?_
      exact w_zret (Or.inl rfl) d_M_fits_79 rfl ( ⟨_, rfl, by unfold fitB; rw [decide_eq_false k0, decide_eq_false (lt_nle k1)]; rfl, rfl⟩)
    · -- not taken
      refine w_iload d_M_fits_40 rfl ?_
      refine w_iload d_M_fits_42 rfl ?_
      refine w_iconst 1 d_M_fits_44 (by decide) ?_
      refine w_icmp_ne 61 d_M_fits_45 (by decide) (fun k2 => ?_) (fun k2 => ?_)
      · -- taken
        have e4 : TT (3 * q + j) = k.2.2 j := by rw [e1, if_neg k2] at e3; exact e3
        refine w_aload_n d_M_fits_61 rfl ?_
        refine w_getf g_M_36 d_M_fits_62 hM rfl (by decide) ?_
        refine w_iconst 3 d_M_fits_65 (by decide) ?_
        refine w_iload_n d_M_fits_66 rfl ?_
        refine w_imul d_M_fits_67 ?_
        refine w_iload_n d_M_fits_68 rfl ?_
        refine w_iadd d_M_fits_69 ?_
        rw [m3, nI_add]
        refine w_iald d_M_fits_70 h6 rfl (by omega) (by decide) (by decide) ?_
        rw [e4]
        refine w_icmp_gt 78 d_M_fits_71 (by decide) (fun k3 => ?_) (fun k3 => ?_)
        · -- taken
          refine w_iconst 0 d_M_fits_78 (by decide) ?_
          exact w_zret (Or.inl rfl) d_M_fits_79 rfl ( ⟨_, rfl, by unfold fitB; rw [decide_eq_false k0, decide_eq_true (nlt_le k1), decide_eq_false (lt_nle k3)]; rfl, rfl⟩)
        · -- not taken
          refine w_iconst 1 d_M_fits_74 (by decide) ?_
          refine w_goto 79 d_M_fits_75 (by decide) ?_
          exact w_zret (Or.inr rfl) d_M_fits_79 rfl ( ⟨_, rfl, by unfold fitB; rw [decide_eq_false k0, decide_eq_true (nlt_le k1), decide_eq_true (nlt_le k3)]; rfl, rfl⟩)
      · -- not taken
        have e4 : FF (3 * q + j) = k.2.2 j := by rw [e1, if_pos k2] at e3; exact e3
        refine w_aload_n d_M_fits_48 rfl ?_
        refine w_getf g_M_33 d_M_fits_49 hM rfl (by decide) ?_
        refine w_iconst 3 d_M_fits_52 (by decide) ?_
        refine w_iload_n d_M_fits_53 rfl ?_
        refine w_imul d_M_fits_54 ?_
        refine w_iload_n d_M_fits_55 rfl ?_
        refine w_iadd d_M_fits_56 ?_
        rw [m3, nI_add]
        refine w_iald d_M_fits_57 h5 rfl (by omega) (by decide) (by decide) ?_
        rw [e4]
        refine w_goto 71 d_M_fits_58 (by decide) ?_
        refine w_icmp_gt 78 d_M_fits_71 (by decide) (fun k3 => ?_) (fun k3 => ?_)
        · -- taken
          refine w_iconst 0 d_M_fits_78 (by decide) ?_
          exact w_zret (Or.inl rfl) d_M_fits_79 rfl ( ⟨_, rfl, by unfold fitB; rw [decide_eq_false k0, decide_eq_true (nlt_le k1), decide_eq_false (lt_nle k3)]; rfl, rfl⟩)
        · -- not taken
          refine w_iconst 1 d_M_fits_74 (by decide) ?_
          refine w_goto 79 d_M_fits_75 (by decide) ?_
          exact w_zret (Or.inr rfl) d_M_fits_79 rfl ( ⟨_, rfl, by unfold fitB; rw [decide_eq_false k0, decide_eq_true (nlt_le k1), decide_eq_true (nlt_le k3)]; rfl, rfl⟩)
theorem kd_le {K F T : Nat → Int32} (h : kOk K F T) {j : Nat} (hj : j < 3) : K j ≤ 0 ↔ K j = 0 := by
  rcases (h j hj).1 with e | e | e <;> rw [e] <;> decide
theorem m_isWay {i : Nat} (hM : c 79 = oM a m t o l p d b an) (hQ : mq X c t q k) (hk : kOk k.1 k.2.1 k.2.2) (hq : q ≤ 8) (hi : i < 9) : GW X a m_M_isWay 0 0 0 0 0 (lv_args 0 [.ref (a 79), .int (nI q), .int (nI i)]) [] c (pI (eI (bI (decide (¬ k.1 (fN i) = 0))) c)) := by
  obtain ⟨h1, h2, ⟨f1, f2, y1, y2, y3⟩, KK, FF, TT, h4, h5, h6, h7⟩ := hQ
  obtain ⟨e1, e2, e3⟩ := h7 (fN i) (fN_l i)
  have hfl := fN_l i
  refine w_aload_n d_M_isWay_0 rfl ?_
  refine w_getf g_M_30 d_M_isWay_1 hM rfl (by decide) ?_
  refine w_iconst 3 d_M_isWay_4 (by decide) ?_
  refine w_iload_n d_M_isWay_5 rfl ?_
  refine w_imul d_M_isWay_6 ?_
  refine w_aload_n d_M_isWay_7 rfl ?_
  refine w_getf g_M_17 d_M_isWay_8 hM rfl (by decide) ?_
  refine w_iload_n d_M_isWay_11 rfl ?_
  refine w_iald d_M_isWay_12 y1 rfl hi (by decide) (by decide) ?_
  rw [(y3 i hi).1]
  refine w_iadd d_M_isWay_13 ?_
  rw [m3, nI_add]
  refine w_iald d_M_isWay_14 h4 rfl (by omega) (by decide) (by decide) ?_
  rw [e1]
  refine w_if_le 22 d_M_isWay_15 (by decide) (fun k0 => ?_) (fun k0 => ?_)
  · -- taken
    have k1 := (kd_le hk (fN_l i)).mp k0
    refine w_iconst 0 d_M_isWay_22 (by decide) ?_
    exact w_zret (Or.inl rfl) d_M_isWay_23 rfl ( ⟨_, rfl, by rw [decide_eq_false (fun z => z k1)]; rfl, rfl⟩)
  · -- not taken
    have k1 : ¬ k.1 (fN i) = 0 := fun z => k0 ((kd_le hk (fN_l i)).mpr z)
    refine w_iconst 1 d_M_isWay_18 (by decide) ?_
    refine w_goto 23 d_M_isWay_19 (by decide) ?_
    exact w_zret (Or.inr rfl) d_M_isWay_23 rfl ( ⟨_, rfl, by rw [decide_eq_true k1]; rfl, rfl⟩)
theorem m_counts {i : Nat} (hM : c 79 = oM a m t o l p d b an) (hQ : mq X c t q k) (hk : kOk k.1 k.2.1 k.2.2) (hq : q ≤ 8) (hi : i < 9) : GW X a m_M_countsSecond 0 0 0 0 0 (lv_args 0 [.ref (a 79), .int (nI q), .int (nI i)]) [] c (pI (eI (bI (secB k.1 i)) c)) := by
  obtain ⟨h1, h2, ⟨f1, f2, y1, y2, y3⟩, KK, FF, TT, h4, h5, h6, h7⟩ := hQ
  obtain ⟨e1, e2, e3⟩ := h7 (fN i) (fN_l i)
  have hfl := fN_l i
  refine w_aload_n d_M_countsSecond_0 rfl ?_
  refine w_getf g_M_20 d_M_countsSecond_1 hM rfl (by decide) ?_
  refine w_iload_n d_M_countsSecond_4 rfl ?_
  refine w_iald d_M_countsSecond_5 y2 rfl hi (by decide) (by decide) ?_
  rw [(y3 i hi).2]
  rcases scol_col hi with hs | ⟨j, hj, hs⟩
  · -- case
    refine w_istore_n d_M_countsSecond_6 (by decide) ?_
    refine w_iload_n d_M_countsSecond_7 rfl ?_
    refine w_if_lt 47 d_M_countsSecond_8 (by decide) (fun _ => ?_) (fun hn => absurd ((by rw [hs]; decide)) hn)
    refine w_iconst 0 d_M_countsSecond_47 (by decide) ?_
    exact w_zret (Or.inl rfl) d_M_countsSecond_48 rfl ( ⟨_, rfl, by unfold secB; rw [hs]; rfl, rfl⟩)
  · -- case
    obtain ⟨g1, g2, g3⟩ := h7 j hj
    have hj' : (scol i).toNatClampNeg = j := by rw [hs]; exact nI_c hj
    have hne : ¬ scol i = -1 := by rw [hs]; exact nI_neg (by omega)
    refine w_istore_n d_M_countsSecond_6 (by decide) ?_
    refine w_iload_n d_M_countsSecond_7 rfl ?_
    refine w_if_lt 47 d_M_countsSecond_8 (by decide) (fun hn => absurd hn ((by rw [hs]; exact nI_n0 (by omega)))) (fun _ => ?_)
    refine w_aload_n d_M_countsSecond_11 rfl ?_
    refine w_getf g_M_30 d_M_countsSecond_12 hM rfl (by decide) ?_
    refine w_iconst 3 d_M_countsSecond_15 (by decide) ?_
    refine w_iload_n d_M_countsSecond_16 rfl ?_
    refine w_imul d_M_countsSecond_17 ?_
    refine w_aload_n d_M_countsSecond_18 rfl ?_
    refine w_getf g_M_17 d_M_countsSecond_19 hM rfl (by decide) ?_
    refine w_iload_n d_M_countsSecond_22 rfl ?_
    refine w_iald d_M_countsSecond_23 y1 rfl hi (by decide) (by decide) ?_
    rw [(y3 i hi).1]
    refine w_iadd d_M_countsSecond_24 ?_
    rw [m3, nI_add]
    refine w_iald d_M_countsSecond_25 h4 rfl (by omega) (by decide) (by decide) ?_
    rw [e1]
    refine w_iconst 1 d_M_countsSecond_26 (by decide) ?_
    refine w_icmp_ne 47 d_M_countsSecond_27 (by decide) (fun k0 => ?_) (fun k0 => ?_)
    · -- taken
      refine w_iconst 0 d_M_countsSecond_47 (by decide) ?_
      exact w_zret (Or.inl rfl) d_M_countsSecond_48 rfl ( ⟨_, rfl, by unfold secB; rw [decide_eq_false k0]; simp [bI], rfl⟩)
    · -- not taken
      refine w_aload_n d_M_countsSecond_30 rfl ?_
      refine w_getf g_M_30 d_M_countsSecond_31 hM rfl (by decide) ?_
      refine w_iconst 3 d_M_countsSecond_34 (by decide) ?_
      refine w_iload_n d_M_countsSecond_35 rfl ?_
      refine w_imul d_M_countsSecond_36 ?_
      refine w_iload_n d_M_countsSecond_37 rfl ?_
      refine w_iadd d_M_countsSecond_38 ?_
      rw [m3, hs, nI_add]
      refine w_iald d_M_countsSecond_39 h4 rfl (by omega) (by decide) (by decide) ?_
      rw [g1]
      refine w_if_le 47 d_M_countsSecond_40 (by decide) (fun k2 => ?_) (fun k2 => ?_)
      · -- taken
        have k3 := (kd_le hk hj).mp k2
        refine w_iconst 0 d_M_countsSecond_47 (by decide) ?_
        exact w_zret (Or.inl rfl) d_M_countsSecond_48 rfl ( ⟨_, rfl, by unfold secB; rw [hj', k3]; simp [bI], rfl⟩)
      · -- not taken
        have k3 : ¬ k.1 j = 0 := fun z => k2 ((kd_le hk hj).mpr z)
        refine w_iconst 1 d_M_countsSecond_43 (by decide) ?_
        refine w_goto 48 d_M_countsSecond_44 (by decide) ?_
        exact w_zret (Or.inr rfl) d_M_countsSecond_48 rfl ( ⟨_, rfl, by unfold secB; rw [hj', decide_eq_true hne, decide_eq_true k0, decide_eq_true k3]; rfl, rfl⟩)
theorem m_isAhead {x i : Nat} (hM : c 79 = oM a m t o l p d b an) (hQ : mq X c t q k) (hk : kOk k.1 k.2.1 k.2.2) (hq : q ≤ 8) (hx : x < 64) (hi : i < 9) : GW X a m_M_isAhead 1 23 0 0 0 (lv_args 0 [.ref (a 79), .int (nI x), .int (nI q), .int (nI i)]) [] c (pI (eI (bI (stB t.2.1 k.2.1 k.1 i x)) c)) := by
  have hQ0 := hQ
  obtain ⟨h1, h2, ⟨f1, f2, y1, y2, y3⟩, KK, FF, TT, h4, h5, h6, h7⟩ := hQ
  obtain ⟨e1, e2, e3⟩ := h7 (fN i) (fN_l i)
  have hfl := fN_l i
  have hf : (nI (fN i)).toNatClampNeg = fN i := nI_c (fN_l i)
  refine w_aload_n d_M_isAhead_0 rfl ?_
  refine w_getf g_M_17 d_M_isAhead_1 hM rfl (by decide) ?_
  refine w_iload_n d_M_isAhead_4 rfl ?_
  refine w_iald d_M_isAhead_5 y1 rfl hi (by decide) (by decide) ?_
  rw [(y3 i hi).1]
  refine w_istore d_M_isAhead_6 (by decide) ?_
  refine w_aload_n d_M_isAhead_8 rfl ?_
  refine w_getf g_M_20 d_M_isAhead_9 hM rfl (by decide) ?_
  refine w_iload_n d_M_isAhead_12 rfl ?_
  refine w_iald d_M_isAhead_13 y2 rfl hi (by decide) (by decide) ?_
  rw [(y3 i hi).2]
  refine w_istore d_M_isAhead_14 (by decide) ?_
  refine w_aload_n d_M_isAhead_16 rfl ?_
  refine w_iload_n d_M_isAhead_17 rfl ?_
  refine w_iload d_M_isAhead_18 rfl ?_
  refine w_vI [_, _] c_M_101 d_M_isAhead_20 rfl hM (by decide) (m_of hM h2 hx (Or.inr ⟨fN i, fN_l i, rfl⟩)) (fun x w hw => ?_) rfl rfl (gq rfl) (gq rfl) (gq rfl) (gq rfl) (gq rfl) (gq rfl)
  obtain ⟨rfl, rfl⟩ := hw
  refine w_istore d_M_isAhead_23 (by decide) ?_
  refine w_aload_n d_M_isAhead_25 rfl ?_
  refine w_getf g_M_33 d_M_isAhead_26 hM rfl (by decide) ?_
  refine w_iconst 3 d_M_isAhead_29 (by decide) ?_
  refine w_iload_n d_M_isAhead_30 rfl ?_
  refine w_imul d_M_isAhead_31 ?_
  refine w_iload d_M_isAhead_32 rfl ?_
  refine w_iadd d_M_isAhead_34 ?_
  rw [m3, nI_add]
  refine w_iald d_M_isAhead_35 h5 rfl (by omega) (by decide) (by decide) ?_
  rw [e2]
  refine w_istore d_M_isAhead_36 (by decide) ?_
  refine w_iload d_M_isAhead_38 rfl ?_
  refine w_iload d_M_isAhead_40 rfl ?_
  refine w_icmp_lt 82 d_M_isAhead_42 (by decide) (fun k0 => ?_) (fun k0 => ?_)
  · -- taken
    refine w_iconst 1 d_M_isAhead_82 (by decide) ?_
    refine w_goto 87 d_M_isAhead_83 (by decide) ?_
    exact w_zret (Or.inr rfl) d_M_isAhead_87 rfl ( ⟨_, rfl, by unfold stB befB; rw [hf, decide_eq_true k0]; rfl, rfl⟩)
  · -- not taken
    refine w_aload_n d_M_isAhead_45 rfl ?_
    refine w_iload_n d_M_isAhead_46 rfl ?_
    refine w_iload_n d_M_isAhead_47 rfl ?_
    refine w_vI [_, _] c_M_136 d_M_isAhead_48 rfl hM (by decide) (m_counts hM hQ0 hk hq hi) (fun x w hw => ?_) rfl rfl (gq rfl) (gq rfl) (gq rfl) (gq rfl) (gq rfl) (gq rfl)
    obtain ⟨rfl, rfl⟩ := hw
    refine w_if_eq 86 d_M_isAhead_51 (by decide) (fun k1 => ?_) (fun k1 => ?_)
    · -- taken
      have k2 := bI_t.mp k1
      refine w_iconst 0 d_M_isAhead_86 (by decide) ?_
      exact w_zret (Or.inl rfl) d_M_isAhead_87 rfl ( ⟨_, rfl, by unfold stB befB; rw [hf, decide_eq_false k0, k2]; rfl, rfl⟩)
    · -- not taken
      have k2 := bI_n.mp k1
      obtain ⟨j, hj, hs⟩ := secB_col hi k2
      obtain ⟨g1, g2, g3⟩ := h7 j hj
      have hj' : (scol i).toNatClampNeg = j := by rw [hs]; exact nI_c hj
      refine w_iload d_M_isAhead_54 rfl ?_
      refine w_iload d_M_isAhead_56 rfl ?_
      refine w_icmp_ne 86 d_M_isAhead_58 (by decide) (fun k3 => ?_) (fun k3 => ?_)
      · -- taken
        refine w_iconst 0 d_M_isAhead_86 (by decide) ?_
        exact w_zret (Or.inl rfl) d_M_isAhead_87 rfl ( ⟨_, rfl, by unfold stB befB; rw [hf, decide_eq_false k0, decide_eq_false k3]; simp [bI], rfl⟩)
      · -- not taken
        refine w_aload_n d_M_isAhead_61 rfl ?_
        refine w_iload_n d_M_isAhead_62 rfl ?_
        refine w_iload d_M_isAhead_63 rfl ?_
        refine w_vI [_, _] c_M_101 d_M_isAhead_65 rfl hM (by decide) (m_of hM h2 hx (Or.inr ⟨j, hj, hs⟩)) (fun x w hw => ?_) rfl rfl (gq rfl) (gq rfl) (gq rfl) (gq rfl) (gq rfl) (gq rfl)
        obtain ⟨rfl, rfl⟩ := hw
        refine w_aload_n d_M_isAhead_68 rfl ?_
        refine w_getf g_M_33 d_M_isAhead_69 hM rfl (by decide) ?_
        refine w_iconst 3 d_M_isAhead_72 (by decide) ?_
        refine w_iload_n d_M_isAhead_73 rfl ?_
        refine w_imul d_M_isAhead_74 ?_
        refine w_iload d_M_isAhead_75 rfl ?_
        refine w_iadd d_M_isAhead_77 ?_
        rw [m3, hs, nI_add]
        refine w_iald d_M_isAhead_78 h5 rfl (by omega) (by decide) (by decide) ?_
        rw [g2]
        refine w_icmp_ge 86 d_M_isAhead_79 (by decide) (fun k4 => ?_) (fun k4 => ?_)
        · -- taken
          refine w_iconst 0 d_M_isAhead_86 (by decide) ?_
          exact w_zret (Or.inl rfl) d_M_isAhead_87 rfl ( ⟨_, rfl, by unfold stB befB; rw [hf, hj', hs, decide_eq_false k0, decide_eq_false (le_nlt k4)]; simp [bI], rfl⟩)
        · -- not taken
          refine w_iconst 1 d_M_isAhead_82 (by decide) ?_
          refine w_goto 87 d_M_isAhead_83 (by decide) ?_
          exact w_zret (Or.inr rfl) d_M_isAhead_87 rfl ( ⟨_, rfl, by unfold stB befB; rw [hf, hj', hs, decide_eq_false k0, k2, decide_eq_true k3, decide_eq_true (nle_lt k4)]; rfl, rfl⟩)
theorem m_isIn {x i : Nat} (hM : c 79 = oM a m t o l p d b an) (hQ : mq X c t q k) (hk : kOk k.1 k.2.1 k.2.2) (hq : q ≤ 8) (hx : x < 64) (hi : i < 9) : GW X a m_M_isIn 2 47 0 0 0 (lv_args 0 [.ref (a 79), .int (nI x), .int (nI q), .int (nI i)]) [] c (pI (eI (bI (insB k.1 k.2.1 k.2.2 t.2.1 (nI (fN i)) (scol i) (secB k.1 i) x)) c)) := by
  have hQ0 := hQ
  obtain ⟨h1, h2, ⟨f1, f2, y1, y2, y3⟩, KK, FF, TT, h4, h5, h6, h7⟩ := hQ
  have hf : (nI (fN i)).toNatClampNeg = fN i := nI_c (fN_l i)
  refine w_aload_n d_M_isIn_0 rfl ?_
  refine w_iload_n d_M_isIn_1 rfl ?_
  refine w_iload_n d_M_isIn_2 rfl ?_
  refine w_aload_n d_M_isIn_3 rfl ?_
  refine w_getf g_M_17 d_M_isIn_4 hM rfl (by decide) ?_
  refine w_iload_n d_M_isIn_7 rfl ?_
  refine w_iald d_M_isIn_8 y1 rfl hi (by decide) (by decide) ?_
  rw [(y3 i hi).1]
  refine w_vI [_, _, _] c_M_140 d_M_isIn_9 rfl hM (by decide) (m_fits hM hQ0 hq hx (fN_l i)) (fun x w hw => ?_) rfl rfl (gq rfl) (gq rfl) (gq rfl) (gq rfl) (gq rfl) (gq rfl)
  obtain ⟨rfl, rfl⟩ := hw
  refine w_if_eq 43 d_M_isIn_12 (by decide) (fun k0 => ?_) (fun k0 => ?_)
  · -- taken
    have k1 := bI_t.mp k0
    refine w_iconst 0 d_M_isIn_43 (by decide) ?_
    exact w_zret (Or.inl rfl) d_M_isIn_44 rfl ( ⟨_, rfl, by unfold insB; rw [hf, k1]; rfl, rfl⟩)
  · -- not taken
    have k1 := bI_n.mp k0
    refine w_aload_n d_M_isIn_15 rfl ?_
    refine w_iload_n d_M_isIn_16 rfl ?_
    refine w_iload_n d_M_isIn_17 rfl ?_
    refine w_vI [_, _] c_M_136 d_M_isIn_18 rfl hM (by decide) (m_counts hM hQ0 hk hq hi) (fun x w hw => ?_) rfl rfl (gq rfl) (gq rfl) (gq rfl) (gq rfl) (gq rfl) (gq rfl)
    obtain ⟨rfl, rfl⟩ := hw
    refine w_if_eq 39 d_M_isIn_21 (by decide) (fun k2 => ?_) (fun k2 => ?_)
    · -- taken
      have k3 := bI_t.mp k2
      refine w_iconst 1 d_M_isIn_39 (by decide) ?_
      refine w_goto 44 d_M_isIn_40 (by decide) ?_
      exact w_zret (Or.inr rfl) d_M_isIn_44 rfl ( ⟨_, rfl, by unfold insB; rw [hf, k1, k3]; rfl, rfl⟩)
    · -- not taken
      have k3 := bI_n.mp k2
      obtain ⟨j, hj, hs⟩ := secB_col hi k3
      have hj' : (scol i).toNatClampNeg = j := by rw [hs]; exact nI_c hj
      refine w_aload_n d_M_isIn_24 rfl ?_
      refine w_iload_n d_M_isIn_25 rfl ?_
      refine w_iload_n d_M_isIn_26 rfl ?_
      refine w_aload_n d_M_isIn_27 rfl ?_
      refine w_getf g_M_20 d_M_isIn_28 hM rfl (by decide) ?_
      refine w_iload_n d_M_isIn_31 rfl ?_
      refine w_iald d_M_isIn_32 y2 rfl hi (by decide) (by decide) ?_
      rw [(y3 i hi).2, hs]
      refine w_vI [_, _, _] c_M_140 d_M_isIn_33 rfl hM (by decide) (m_fits hM hQ0 hq hx hj) (fun x w hw => ?_) rfl rfl (gq rfl) (gq rfl) (gq rfl) (gq rfl) (gq rfl) (gq rfl)
      obtain ⟨rfl, rfl⟩ := hw
      refine w_if_eq 43 d_M_isIn_36 (by decide) (fun k4 => ?_) (fun k4 => ?_)
      · -- taken
        have k5 := bI_t.mp k4
        refine w_iconst 0 d_M_isIn_43 (by decide) ?_
        exact w_zret (Or.inl rfl) d_M_isIn_44 rfl ( ⟨_, rfl, by unfold insB; rw [hf, k1, k3, nI_c hj, k5]; rfl, rfl⟩)
      · -- not taken
        have k5 := bI_n.mp k4
        refine w_iconst 1 d_M_isIn_39 (by decide) ?_
        refine w_goto 44 d_M_isIn_40 (by decide) ?_
        exact w_zret (Or.inr rfl) d_M_isIn_44 rfl ( ⟨_, rfl, by unfold insB; rw [hf, k1, k3, nI_c hj, k5]; rfl, rfl⟩)
end MW
