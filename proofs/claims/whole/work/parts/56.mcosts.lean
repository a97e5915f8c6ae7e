/-! The model: findCosts, choose, costOf -/
section MFC
variable {X : gX} {a : Nat → Nat} {t : QT} {k : QC} {o : QO} {l : QL} {p : QP} {d : QD} {b : QB} {n q : Nat} {r : List Nat} {th : Int32}
-- the first j shapes, of the shape j the first i
def mcs2 (t : QT) (d : QD) (CC : Nat → Int32) (j i : Nat) : Prop := CC 72 = nI (fours t.1) ∧ ∀ x, x < 9 * j + i → CC x = cM t (cS d (x / 9)) (x % 9)
theorem mcs2_s {CC : Nat → Int32} {j i : Nat} (h : mcs2 t d CC j i) (hj : j < 8) (hi : i < 9) : mcs2 t d (upd CC (9 * j + i) (cM t (cS d j) i)) j (i + 1) := by
  refine ⟨by rw [pk_un (by omega)]; exact h.1, fun x hx => ?_⟩
  by_cases e : x = 9 * j + i
  · rw [e, pk_us, show (9 * j + i) / 9 = j by omega, show (9 * j + i) % 9 = i by omega]
  · rw [pk_un e]
    exact h.2 x (by omega)
theorem m_fiGo {j : Nat} (ht : t.1 ≤ 64) (hd : d.1 ≤ 8) (hj : j < d.1) (hk : kOk (cS d j).1 (cS d j).2.1 (cS d j).2.2) {c0 : Nat → va_E} {an : Nat} {Post : gO → (Nat → va_E) → Prop}
    (next : ∀ (c : Nat → va_E) (sc : Nat × Nat × Nat) (fr CC : Nat → Int32), same c0 c [79, 92, 93] → c 79 = oM a (th, sc) t o l p d b an → c 92 = aI X 64 fr → c 93 = aI X 73 CC → mcs2 t d CC (j + 1) 0 → GW X a m_M_findCosts 5 116 0 0 71 [(0, .ref (a 79)), (1, .int (nI j))] [] c Post) :
    ∀ (e i : Nat) (c : Nat → va_E) (sc : Nat × Nat × Nat) (fr CC : Nat → Int32), i + e = 9 → same c0 c [79, 92, 93] → mq X c t (j + 1) (cS d j) → c 79 = oM a (th, sc) t o l p d b an → c 92 = aI X 64 fr → c 93 = aI X 73 CC → mcs2 t d CC j i → GW X a m_M_findCosts 5 116 0 0 23 [(0, .ref (a 79)), (1, .int (nI j)), (2, .int (nI i))] [] c Post := by
  intro e
  induction e with
  | zero =>
    intro i c sc fr CC hi hs hQ hM hE hC hm
    have hi' : i = 9 := by omega
    subst hi'
    refine w_iload_n d_M_findCosts_23 rfl ?_
    refine w_bipush 9 d_M_findCosts_24 (by decide) ?_
    refine w_icmp_ge 71 d_M_findCosts_26 (by decide) (fun _ => ?_) (fun hn => absurd ((by decide)) hn)
    exact w_sel [0, 1] rfl (next c sc fr CC hs hM hE hC ⟨hm.1, fun x hx => hm.2 x (by omega)⟩)
  | succ e ih =>
    intro i c sc fr CC hi hs hQ hM hE hC hm
    refine w_iload_n d_M_findCosts_23 rfl ?_
    refine w_bipush 9 d_M_findCosts_24 (by decide) ?_
    refine w_icmp_ge 71 d_M_findCosts_26 (by decide) (fun hn => absurd hn (fun z => absurd ((nI_leI (a := 9) (by decide) (by omega)).mp z) (by omega))) (fun _ => ?_)
    refine w_aload_n d_M_findCosts_29 rfl ?_
    refine w_getf g_M_66 d_M_findCosts_30 hM rfl (by decide) ?_
    refine w_bipush 9 d_M_findCosts_33 (by decide) ?_
    refine w_iload_n d_M_findCosts_35 rfl ?_
    refine w_imul d_M_findCosts_36 ?_
    refine w_iload_n d_M_findCosts_37 rfl ?_
    refine w_iadd d_M_findCosts_38 ?_
    rw [m9, nI_add]
    refine w_aload_n d_M_findCosts_39 rfl ?_
    refine w_iload_n d_M_findCosts_40 rfl ?_
    refine w_iconst 1 d_M_findCosts_41 (by decide) ?_
    refine w_iadd d_M_findCosts_42 ?_
    rw [nI_1]
    refine w_iload_n d_M_findCosts_43 rfl ?_
    refine w_vI [_, _] c_M_165 d_M_findCosts_44 rfl hM (by decide) (m_isWay (k := cS d j) (q := j + 1) hM hQ hk (by omega) (show i < 9 by omega)) (fun x w hw => ?_) rfl rfl (gq rfl) (gq rfl) (gq rfl) (gq rfl) (gq rfl) (gq rfl)
    obtain ⟨rfl, rfl⟩ := hw
    refine w_if_eq 61 d_M_findCosts_47 (by decide) (fun h3 => ?_) (fun h3 => ?_)
    · -- taken
      have h3' : (cS d j).1 (fN i) = 0 := by simpa using bI_t.mp h3
      have hcm : (1000 : Int32) = cM t (cS d j) i := by unfold cM; rw [if_pos h3']
      refine w_sipush 1000 d_M_findCosts_61 (by decide) ?_
      rw [hcm]
      refine w_iast d_M_findCosts_64 hC rfl (show 9 * j + i < 73 by omega) (by decide) (by decide) ?_
      first | refine w_iinc _ d_M_findCosts_65 rfl (nIinc _) (by decide) ?_ | refine w_iinc _ d_M_findCosts_65 rfl rfl (by decide) ?_
      refine w_goto 23 d_M_findCosts_68 (by decide) ?_
      exact ih (i + 1) _ sc fr _ (by omega) (same_trans hs (same_up (by simp))) (hQ.keep (L := [93]) (same_up (by simp)) (by simp)) (va_n (by decide) hM) (va_n (by decide) hE) va_s (mcs2_s hm (by omega) (by omega))
    · -- not taken
      have h3' : ¬ (cS d j).1 (fN i) = 0 := by simpa using bI_n.mp h3
      have hcm : cst t (cS d j) i = cM t (cS d j) i := by unfold cM; rw [if_neg h3']
      refine w_aload_n d_M_findCosts_50 rfl ?_
      refine w_iload_n d_M_findCosts_51 rfl ?_
      refine w_iconst 1 d_M_findCosts_52 (by decide) ?_
      refine w_iadd d_M_findCosts_53 ?_
      rw [nI_1]
      refine w_iload_n d_M_findCosts_54 rfl ?_
      refine w_vI [_, _] c_M_168 d_M_findCosts_55 rfl hM (by decide) (m_costBy (k := cS d j) (q := j + 1) hM hQ hE hk (by omega) ht (show i < 9 by omega) h3') (fun x w hw => ?_) rfl rfl (gq rfl) (gq rfl) (gq rfl) (gq rfl) (gq rfl) (gq rfl)
      obtain ⟨rfl, ⟨sc', w1⟩, ⟨fr', w2⟩, w3⟩ := hw
      refine w_goto 64 d_M_findCosts_58 (by decide) ?_
      rw [hcm]
      refine w_iast d_M_findCosts_64 ((w3 93 (by decide)).trans hC) rfl (show 9 * j + i < 73 by omega) (by decide) (by decide) ?_
      first | refine w_iinc _ d_M_findCosts_65 rfl (nIinc _) (by decide) ?_ | refine w_iinc _ d_M_findCosts_65 rfl rfl (by decide) ?_
      refine w_goto 23 d_M_findCosts_68 (by decide) ?_
      exact ih (i + 1) _ sc' fr' _ (by omega) (same_trans (same_trans hs (same_sub w3 (by simp))) (same_up (by simp))) ((hQ.keep w3 (by simp)).keep (L := [93]) (same_up (by simp)) (by simp)) (va_n (by decide) w1) (va_n (by decide) w2) va_s (mcs2_s hm (by omega) (by omega))
theorem m_foGo {c0 : Nat → va_E} (h : mdl X a c0 th t k o l p d b r) (ok : okQ n t k o l p d b r) : ∀ (e j : Nat) (c : Nat → va_E) (sc : Nat × Nat × Nat) (fr CC : Nat → Int32), j + e = d.1 → same c0 c [79, 92, 93] → c 79 = oM a (th, sc) t o l p d b r.length → c 92 = aI X 64 fr → c 93 = aI X 73 CC → mcs2 t d CC j 0 →
    GW X a m_M_findCosts 5 116 0 0 13 [(0, .ref (a 79)), (1, .int (nI j))] [] c (pV (fun w => (∃ sc, w 79 = oM a (th, sc) t o l p d b r.length) ∧ (∃ fr, w 92 = aI X 64 fr) ∧ (∃ CC, w 93 = aI X 73 CC ∧ mcs t d CC) ∧ same c0 w [79, 92, 93])) := by
  have ht := ok.1
  obtain ⟨d1, d2, d3⟩ := ok.2.2.2.2.2.1
  intro e
  induction e with
  | zero =>
    intro j c sc fr CC hj hs hM hE hC hm
    have hj' : j = d.1 := by omega
    subst hj'
    refine w_iload_n d_M_findCosts_13 rfl ?_
    refine w_aload_n d_M_findCosts_14 rfl ?_
    refine w_getf g_M_187 d_M_findCosts_15 hM rfl (by decide) ?_
    refine w_icmp_ge 77 d_M_findCosts_18 (by decide) (fun _ => ?_) (fun hn => absurd ((Int32.le_refl _)) hn)
    exact w_vret d_M_findCosts_77 rfl (⟨rfl, ⟨sc, hM⟩, ⟨fr, hE⟩, ⟨CC, hC, hm.1, fun j hj i hi => by rw [hm.2 (9 * j + i) (by omega), show (9 * j + i) / 9 = j by omega, show (9 * j + i) % 9 = i by omega]⟩, hs⟩)
  | succ e ih =>
    intro j c sc fr CC hj hs hM hE hC hm
    have hjd : j < d.1 := by omega
    have hQ0 : mq X c0 t (j + 1) (cS d j) := h.q (q := j + 1) (by omega)
    have kk := m_fiGo (X := X) (a := a) (th := th) (t := t) (o := o) (l := l) (p := p) (d := d) (b := b) (an := r.length) (c0 := c0) ht d1 hjd (d3 j hjd).2 (Post := pV (fun w => (∃ sc, w 79 = oM a (th, sc) t o l p d b r.length) ∧ (∃ fr, w 92 = aI X 64 fr) ∧ (∃ CC, w 93 = aI X 73 CC ∧ mcs t d CC) ∧ same c0 w [79, 92, 93])) (fun c' sc' fr' CC' s' q1 q2 q3 q4 => by
      first | refine w_iinc _ d_M_findCosts_71 rfl (nIinc _) (by decide) ?_ | refine w_iinc _ d_M_findCosts_71 rfl rfl (by decide) ?_
      refine w_goto 13 d_M_findCosts_74 (by decide) ?_
      exact ih (j + 1) c' sc' fr' CC' (by omega) s' q1 q2 q3 q4
      ) 9 0 c sc fr CC rfl hs (hQ0.keep hs (by simp)) hM hE hC hm
    refine w_iload_n d_M_findCosts_13 rfl ?_
    refine w_aload_n d_M_findCosts_14 rfl ?_
    refine w_getf g_M_187 d_M_findCosts_15 hM rfl (by decide) ?_
    refine w_icmp_ge 77 d_M_findCosts_18 (by decide) (fun hn => absurd hn (fun z => absurd ((nI_leI (by show d.1 < 2 ^ 31; omega) (by omega)).mp z) (by show ¬ d.1 ≤ j; omega))) (fun _ => ?_)
    refine w_iconst 0 d_M_findCosts_21 (by decide) ?_
    refine w_istore_n d_M_findCosts_22 (by decide) ?_
    exact kk
variable {c : Nat → va_E}
theorem m_findCosts (h : mdl X a c th t k o l p d b r) (ok : okQ n t k o l p d b r) : GW X a m_M_findCosts 5 116 0 0 0 (lv_args 0 [.ref (a 79)]) [] c (pV (fun w => (∃ sc, w 79 = oM a (th, sc) t o l p d b r.length) ∧ (∃ fr, w 92 = aI X 64 fr) ∧ (∃ CC, w 93 = aI X 73 CC ∧ mcs t d CC) ∧ same c w [79, 92, 93])) := by
  obtain ⟨sc, hM⟩ := h.M
  obtain ⟨⟨fr, hE⟩, CC, hC⟩ := h.E
  refine w_aload_n d_M_findCosts_0 rfl ?_
  refine w_getf g_M_66 d_M_findCosts_1 hM rfl (by decide) ?_
  refine w_bipush 72 d_M_findCosts_4 (by decide) ?_
  refine w_aload_n d_M_findCosts_6 rfl ?_
  refine w_vI [] c_M_162 d_M_findCosts_7 rfl hM (by decide) (m_heapPages hM ok.1) (fun x w hw => ?_) rfl rfl (gq rfl) (gq rfl) (gq rfl) (gq rfl) (gq rfl) (gq rfl)
  obtain ⟨rfl, rfl⟩ := hw
  refine w_iast d_M_findCosts_10 hC (show (72 : Int32) = nI 72 from rfl) (by decide : 72 < 73) (by decide) (by decide) ?_
  refine w_iconst 0 d_M_findCosts_11 (by decide) ?_
  refine w_istore_n d_M_findCosts_12 (by decide) ?_
  exact m_foGo h ok d.1 0 _ sc fr _ (by omega) (same_up (by simp)) (va_n (by decide) hM) (va_n (by decide) hE) va_s ⟨pk_us, fun x hx => absurd hx (by omega)⟩
theorem mdl.fc (h : mdl X a c th t k o l p d b r) {w : Nat → va_E} (h1 : ∃ sc, w 79 = oM a (th, sc) t o l p d b r.length) (h2 : ∃ fr, w 92 = aI X 64 fr) (h3 : ∃ CC, w 93 = aI X 73 CC ∧ mcs t d CC) (hs : same c w [79, 92, 93]) : mdl X a w th t k o l p d b r := by
  obtain ⟨CC, q1, -⟩ := h3
  exact h.thr hs h1 (by simp) ⟨h2, CC, q1⟩
theorem m_costOf (h : mdl X a c th t k o l p d b r) (ok : okQ n t k o l p d b r) {x : Int32} : GW X a m_M_costOf 6 138 0 0 0 (lv_args 0 [.ref (a 79), .int x]) [] c (pJ (fun v w => ((∃ s, (s < 512 ∧ x = nI s) ∧ v = setQ t d s ∧ mdl X a w 0 t k o l p d b r) ∨ (¬ (∃ s, s < 512 ∧ x = nI s) ∧ mdl X a w 1 t k o l p d b r)) ∧ sameM c w)) := by
  obtain ⟨sc, hM⟩ := h.M
  have hm := h.thr1 (th' := 0) (sc := sc)
  have bad : ¬ (∃ s, s < 512 ∧ x = nI s) → GW X a m_M_costOf 6 138 0 0 12 [(0, .ref (a 79)), (1, .int x)] [.ref (a 79)] c (pJ (fun v w => ((∃ s, (s < 512 ∧ x = nI s) ∧ v = setQ t d s ∧ mdl X a w 0 t k o l p d b r) ∨ (¬ (∃ s, s < 512 ∧ x = nI s) ∧ mdl X a w 1 t k o l p d b r)) ∧ sameM c w)) := by
    intro hn
    refine w_iconst 1 d_M_costOf_12 (by decide) ?_
    refine w_goto 17 d_M_costOf_13 (by decide) ?_
    refine w_putf p_M_72 d_M_costOf_17 hM rfl rfl (gqL rfl) (by decide) ?_
    refine w_aload_n d_M_costOf_20 rfl ?_
    refine w_getf g_M_72 d_M_costOf_21 va_s rfl (by decide) ?_
    refine w_if_le 29 d_M_costOf_24 (by decide) (fun hn => absurd hn ((by decide))) (fun _ => ?_)
    refine w_lconst 0 d_M_costOf_27 (by decide) ?_
    exact w_lret d_M_costOf_28 rfl (⟨_, rfl, Or.inr ⟨hn, h.thr1⟩, sameM_up (by decide) (by decide)⟩)
  refine w_aload_n d_M_costOf_0 rfl ?_
  refine w_iload_n d_M_costOf_1 rfl ?_
  refine w_if_lt 12 d_M_costOf_2 (by decide) (fun h1 => ?_) (fun h1 => ?_)
  · -- taken
    exact bad (fun z => by obtain ⟨s, hs, rfl⟩ := z; exact nI_n0 (by omega) h1)
  · -- not taken
    refine w_iload_n d_M_costOf_5 rfl ?_
    refine w_sipush 511 d_M_costOf_6 (by decide) ?_
    refine w_icmp_le 16 d_M_costOf_9 (by decide) (fun h2 => ?_) (fun h2 => ?_)
    · -- taken
      obtain ⟨s, hs, rfl⟩ := nn_le (n := 511) h1 h2 (by decide)
      refine w_iconst 0 d_M_costOf_16 (by decide) ?_
      refine w_putf p_M_72 d_M_costOf_17 hM rfl rfl (gqL rfl) (by decide) ?_
      refine w_aload_n d_M_costOf_20 rfl ?_
      refine w_getf g_M_72 d_M_costOf_21 va_s rfl (by decide) ?_
      refine w_if_le 29 d_M_costOf_24 (by decide) (fun _ => ?_) (fun hn => absurd ((by decide)) hn)
      refine w_aload_n d_M_costOf_29 rfl ?_
      refine w_vV [] c_M_217 d_M_costOf_30 rfl va_s (by decide) (m_findCosts hm ok) (fun w hw => ?_) rfl rfl (gq rfl) (gq rfl) (gq rfl) (gq rfl) (gq rfl) (gq rfl)
      obtain ⟨⟨sc1, u1⟩, u2, ⟨CC, u3, u4⟩, u5⟩ := hw
      have hm1 := hm.fc ⟨sc1, u1⟩ u2 ⟨CC, u3, u4⟩ u5
      obtain ⟨WW, w1, w2⟩ := hm1.W
      refine w_aload_n d_M_costOf_33 rfl ?_
      refine w_iload_n d_M_costOf_34 rfl ?_
      refine w_vJ [_] c_M_220 d_M_costOf_35 rfl u1 (by decide) (m_sumOf (s := s) ok.1 ok.2.2.2.2.2.1.1 (by omega) u1 hm1.H u3 u4 w1 w2) (fun x w hw => ?_) rfl rfl (gq rfl) (gq rfl) (gq rfl) (gq rfl) (gq rfl) (gq rfl)
      obtain ⟨rfl, rfl⟩ := hw
      exact w_lret d_M_costOf_38 rfl (⟨_, rfl, Or.inl ⟨s, ⟨by omega, rfl⟩, rfl, hm1⟩, sameM_t (sameM_up (by decide) (by decide)) (sameM_of u5 (by simp))⟩)
    · -- not taken
      exact bad (fun z => by obtain ⟨s, hs, rfl⟩ := z; exact h2 (nI_le (b := 511) (by omega) (by decide)))
end MFC
