/-! The model: touch -/
def okO (ob : Option Nat) : Prop := ∀ j, ob = some j → j < 9
theorem cod_pg {ob : Option Nat} {lv pl : Nat} (ho : okO ob) (hl : lv < 4) (hp : pl < 16) : cod (nI (pgN ob lv pl)) = nI (10000 * mof ob + 100 * lv + pl) := by
  have hofn : ofN ob ≤ 9 := by
    rcases opt_or ob with rfl | ⟨i, rfl⟩
    · decide
    · have := ho i rfl; show i + 1 ≤ 9; omega
  have hn : pgN ob lv pl < 2 ^ 31 := by unfold pgN; omega
  unfold cod
  rw [if_neg (nI_neg hn), nI_clamp hn]
  have e1 : pgN ob lv pl / 64 = ofN ob := by unfold pgN; omega
  have e2 : pgN ob lv pl / 16 % 4 = lv := by unfold pgN; omega
  have e3 : pgN ob lv pl % 16 = pl := by unfold pgN; omega
  rw [e1, e2, e3]
  rcases opt_or ob with rfl | ⟨i, rfl⟩
  · rfl
  · rfl
theorem mof_lt {ob : Option Nat} (ho : okO ob) : mof ob ≤ 9 := by
  rcases opt_or ob with rfl | ⟨i, rfl⟩
  · decide
  · have := ho i rfl; show i ≤ 9; omega
theorem mof_inj {ob oc : Option Nat} (h1 : okO ob) (h2 : okO oc) (h : mof ob = mof oc) : ob = oc := by
  rcases opt_or ob with rfl | ⟨i, rfl⟩ <;> rcases opt_or oc with rfl | ⟨j, rfl⟩
  · rfl
  · have := h2 j rfl; have h' : 9 = j := h; omega
  · have := h1 i rfl; have h' : i = 9 := h; omega
  · have h' : i = j := h; rw [h']
-- the same page by both numbers
theorem cod_iff {x : Int32} {ob : Option Nat} {lv pl : Nat} (ho : okO ob) (hl : lv < 4) (hp : pl < 16) (hx : x = -1 ∨ ∃ o l p, x = nI (pgN o l p) ∧ (∀ j, o = some j → j < 9) ∧ l < 4 ∧ p < 16) : cod x = nI (10000 * mof ob + 100 * lv + pl) ↔ x = nI (pgN ob lv pl) := by
  have hm := mof_lt ho
  have hn : pgN ob lv pl < 2 ^ 31 := by
    have hofn : ofN ob ≤ 9 := by
      rcases opt_or ob with rfl | ⟨i, rfl⟩
      · decide
      · have := ho i rfl; show i + 1 ≤ 9; omega
    unfold pgN; omega
  rcases hx with rfl | ⟨o, l, p, rfl, h1, h2, h3⟩
  · constructor
    · intro h
      have h' : (-1 : Int32) = nI (10000 * mof ob + 100 * lv + pl) := h
      exact absurd h'.symm (nI_neg (by omega))
    · intro h
      exact absurd h.symm (nI_neg hn)
  · constructor
    · intro h
      rw [cod_pg h1 h2 h3] at h
      have hm2 := mof_lt (ob := o) h1
      have e := (nI_eq (by omega) (by omega)).mp h
      have e1 : mof o = mof ob := by omega
      have e2 : l = lv := by omega
      have e3 : p = pl := by omega
      rw [mof_inj h1 ho e1, e2, e3]
    · intro h
      rw [h]
      exact cod_pg ho hl hp
theorem ff_z {nF : Nat} (h0 : 0 < nF) : ∀ {j : Nat} {mr : Nat → Int32} {hd : Nat}, hd < nF → (liveL mr nF).length ≤ j → (ffGo nF j mr hd).1 (ffGo nF j mr hd).2 = 0
  | 0, mr, hd, hh, hl => by
    show mr hd = 0
    by_cases e : mr hd = 0
    · exact e
    · have := live_del e hh
      omega
  | j + 1, mr, hd, hh, hl => by
    unfold ffGo
    split
    · rename_i e; exact e
    · rename_i e
      have := live_del e hh
      exact ff_z h0 (nxH_lt h0) (by omega)
theorem rem_ok {nF hd : Nat} (h2 : 2 ≤ nF) (hn : nF ≤ 16) (hh : hd < nF) : nI (hd + 1) - nI (hd + 1) / nI nF * nI nF = nI (nxH nF hd) := by
  rw [pk_div (by omega) (by omega) (by omega), pk_mul]
  unfold nxH
  split
  · rename_i e
    rw [Nat.div_eq_of_lt e, Nat.zero_mul, pk_sub (by omega)]
    rfl
  · have e : hd + 1 = nF := by omega
    rw [e, Nat.div_self (by omega), Nat.one_mul, pk_sub (by omega), Nat.sub_self]
section MTO
variable {X : gX} {a : Nat → Nat} {m : QM} {t : QT} {k : QC} {o : QO} {l : QL} {nF : Nat} {d : QD} {b : QB} {an n q : Nat}
-- the hand goes on while the frames are marked
theorem m_ffGo {x : Int32} {tc ms : Nat} {PP pg : Nat → Int32} (h2 : 2 ≤ nF) (hn : nF ≤ 16) {Post : gO → (Nat → va_E) → Prop} {c0 : Nat → va_E} {mr0 : Nat → Int32} {hd0 : Nat}
    (next : ∀ (c : Nat → va_E) (MM : Nat → Int32), same c0 c [79, 89, 90] → c 79 = oM a m t o l (nF, pg, (ffGo nF nF mr0 hd0).1, (ffGo nF nF mr0 hd0).2, tc, ms) d b an → c 89 = aI X 16 PP → c 90 = aZ X 16 MM → (∀ f, f < nF → MM f = (ffGo nF nF mr0 hd0).1 f) →
      GW X a m_M_touch 0 0 0 0 113 [(0, .ref (a 79)), (4, .int x)] [] c Post) :
    ∀ (j : Nat) (mr : Nat → Int32) (hd : Nat) (c : Nat → va_E) (MM : Nat → Int32), hd < nF → (liveL mr nF).length ≤ j → ffGo nF j mr hd = ffGo nF nF mr0 hd0 → same c0 c [79, 89, 90] → c 79 = oM a m t o l (nF, pg, mr, hd, tc, ms) d b an → c 89 = aI X 16 PP → c 90 = aZ X 16 MM → (∀ f, f < nF → MM f = mr f) →
      GW X a m_M_touch 0 0 0 0 73 [(0, .ref (a 79)), (4, .int x)] [] c Post := by
  intro j
  induction j with
  | zero =>
    intro mr hd c MM hh hl he hs hM hP hMM hm
    have hz : mr hd = 0 := ff_z (j := 0) (by omega) hh hl
    have he' : (mr, hd) = ffGo nF nF mr0 hd0 := he
    refine w_aload_n d_M_touch_73 rfl ?_
    refine w_getf g_M_54 d_M_touch_74 hM rfl (by decide) ?_
    refine w_aload_n d_M_touch_77 rfl ?_
    refine w_getf g_M_177 d_M_touch_78 hM rfl (by decide) ?_
    refine w_zald d_M_touch_81 hMM rfl (show hd < 16 by omega) (by decide) (by decide) ?_
    refine w_if_eq 113 d_M_touch_82 (by decide) (fun _ => ?_) (fun hn => absurd ((by rw [hm hd hh]; exact hz)) hn)
    exact next c MM hs (by rw [← he']; exact hM) hP hMM (by rw [← he']; exact hm)
  | succ j ih =>
    intro mr hd c MM hh hl he hs hM hP hMM hm
    by_cases hz : mr hd = 0
    · have he' : (mr, hd) = ffGo nF nF mr0 hd0 := by
        rw [ffGo, if_pos hz] at he
        exact he
      refine w_aload_n d_M_touch_73 rfl ?_
      refine w_getf g_M_54 d_M_touch_74 hM rfl (by decide) ?_
      refine w_aload_n d_M_touch_77 rfl ?_
      refine w_getf g_M_177 d_M_touch_78 hM rfl (by decide) ?_
      refine w_zald d_M_touch_81 hMM rfl (show hd < 16 by omega) (by decide) (by decide) ?_
      refine w_if_eq 113 d_M_touch_82 (by decide) (fun _ => ?_) (fun hn => absurd ((by rw [hm hd hh]; exact hz)) hn)
      exact next c MM hs (by rw [← he']; exact hM) hP hMM (by rw [← he']; exact hm)
    · have he' : ffGo nF j (upd mr hd 0) (nxH nF hd) = ffGo nF nF mr0 hd0 := by
        rw [ffGo, if_neg hz] at he
        exact he
      have hld := live_del hz hh
      refine w_aload_n d_M_touch_73 rfl ?_
      refine w_getf g_M_54 d_M_touch_74 hM rfl (by decide) ?_
      refine w_aload_n d_M_touch_77 rfl ?_
      refine w_getf g_M_177 d_M_touch_78 hM rfl (by decide) ?_
      refine w_zald d_M_touch_81 hMM rfl (show hd < 16 by omega) (by decide) (by decide) ?_
      refine w_if_eq 113 d_M_touch_82 (by decide) (fun hn => absurd hn ((by rw [hm hd hh]; exact hz))) (fun _ => ?_)
      refine w_aload_n d_M_touch_85 rfl ?_
      refine w_getf g_M_54 d_M_touch_86 hM rfl (by decide) ?_
      refine w_aload_n d_M_touch_89 rfl ?_
      refine w_getf g_M_177 d_M_touch_90 hM rfl (by decide) ?_
      refine w_iconst 0 d_M_touch_93 (by decide) ?_
      refine w_zast d_M_touch_94 hMM rfl (show hd < 16 by omega) (by decide) (by decide) (by decide) ?_
      refine w_aload_n d_M_touch_95 rfl ?_
      refine w_aload_n d_M_touch_96 rfl ?_
      refine w_getf g_M_177 d_M_touch_97 (va_n (by decide) hM) rfl (by decide) ?_
      refine w_iconst 1 d_M_touch_100 (by decide) ?_
      refine w_iadd d_M_touch_101 ?_
      rw [show nI (nF, pg, mr, hd, tc, ms).2.2.2.1 + 1 = nI (hd + 1) from nI_1 hd]
      refine w_aload_n d_M_touch_102 rfl ?_
      refine w_getf g_M_69 d_M_touch_103 (va_n (by decide) hM) rfl (by decide) ?_
      refine w_irem d_M_touch_106 (fun z => absurd ((nI_eq (a := nF) (b := 0) (by omega) (by decide)).mp z) (by omega)) ?_
      rw [show nI (hd + 1) - nI (hd + 1) / nI (nF, pg, mr, hd, tc, ms).1 * nI (nF, pg, mr, hd, tc, ms).1 = nI (nxH nF hd) from rem_ok h2 hn hh]
      refine w_putf p_M_177 d_M_touch_107 (va_n (by decide) hM) rfl rfl (gqL rfl) (by decide) ?_
      refine w_goto 73 d_M_touch_110 (by decide) ?_
      exact ih (upd mr hd 0) (nxH nF hd) _ (upd MM hd 0) (nxH_lt (by omega)) (by omega) he' (same_trans hs (same_trans (same_up (by simp)) (same_up (by simp)))) rfl (va_n (by decide) (va_n (by decide) hP)) (va_n (by decide) va_s) (fun f hf => by by_cases e : f = hd; rw [e, pk_us, pk_us]; rw [pk_un e, pk_un e]; exact hm f hf)
abbrev tchQ (p : QP) (ob : Option Nat) (lv pl : Nat) : QP := (p.1, tchP p.1 (nI (pgN ob lv pl)) p.2)
theorem m_fdGo {p : QP} {ob : Option Nat} {lv pl : Nat} {PP MM : Nat → Int32} {c : Nat → va_E} (ho : okO ob) (hl : lv < 4) (hpl : pl < 16) (hn : p.1 ≤ 16) (hpk : pOk p.1 p.2) (h1 : c 89 = aI X 16 PP) (h2 : c 90 = aZ X 16 MM) (h3 : ∀ f, f < p.1 → PP f = cod (p.2.1 f) ∧ MM f = p.2.2.1 f) (hM : c 79 = oM a m t o l p d b an) {Post : gO → (Nat → va_E) → Prop}
    (found : ∀ f, f < p.1 → fdGo p.2.1 (nI (pgN ob lv pl)) p.1 0 = some f → Post (.inl none) (va_up c 90 (aZ X 16 (upd MM f 1)))) (none_ : fdGo p.2.1 (nI (pgN ob lv pl)) p.1 0 = none → GW X a m_M_touch 0 0 0 0 63 [(0, .ref (a 79)), (4, .int (nI (10000 * mof ob + 100 * lv + pl)))] [] c Post) :
    ∀ (e f : Nat), f + e = p.1 → fdGo p.2.1 (nI (pgN ob lv pl)) e f = fdGo p.2.1 (nI (pgN ob lv pl)) p.1 0 → GW X a m_M_touch 0 0 0 0 27 [(0, .ref (a 79)), (4, .int (nI (10000 * mof ob + 100 * lv + pl))), (5, .int (nI f))] [] c Post := by
  intro e
  induction e with
  | zero =>
    intro f hf he
    refine w_iload d_M_touch_27 rfl ?_
    refine w_aload_n d_M_touch_29 rfl ?_
    refine w_getf g_M_69 d_M_touch_30 hM rfl (by decide) ?_
    refine w_icmp_ge 63 d_M_touch_33 (by decide) (fun _ => ?_) (fun hn => absurd ((by rw [show f = p.1 by omega]; exact Int32.le_refl _)) hn)
    exact w_sel [0, 4] rfl (none_ he.symm)
  | succ e ih =>
    intro f hf he
    have hfl : f < p.1 := by omega
    have hc := cod_iff ho hl hpl (hpk f hfl)
    refine w_iload d_M_touch_27 rfl ?_
    refine w_aload_n d_M_touch_29 rfl ?_
    refine w_getf g_M_69 d_M_touch_30 hM rfl (by decide) ?_
    refine w_icmp_ge 63 d_M_touch_33 (by decide) (fun hn => absurd hn (fun z => absurd ((nI_leI (by omega) (by omega)).mp z) (by omega))) (fun _ => ?_)
    refine w_aload_n d_M_touch_36 rfl ?_
    refine w_getf g_M_51 d_M_touch_37 hM rfl (by decide) ?_
    refine w_iload d_M_touch_40 rfl ?_
    refine w_iald d_M_touch_42 h1 rfl (show f < 16 by omega) (by decide) (by decide) ?_
    rw [(h3 f hfl).1]
    refine w_iload d_M_touch_43 rfl ?_
    refine w_icmp_ne 57 d_M_touch_45 (by decide) (fun h0 => ?_) (fun h0 => ?_)
    · -- taken
      have h0' : ¬ p.2.1 f = nI (pgN ob lv pl) := fun z => h0 (hc.mpr z)
      first | refine w_iinc _ d_M_touch_57 rfl (nIinc _) (by decide) ?_ | refine w_iinc _ d_M_touch_57 rfl rfl (by decide) ?_
      refine w_goto 27 d_M_touch_60 (by decide) ?_
      exact ih (f + 1) (by omega) (by rw [← he]; show _ = fdGo _ _ (e + 1) f; rw [fdGo, if_neg h0'])
    · -- not taken
      have h0' := hc.mp h0
      have hfd : fdGo p.2.1 (nI (pgN ob lv pl)) p.1 0 = some f := by rw [← he]; show fdGo _ _ (e + 1) f = _; rw [fdGo, if_pos h0']
      refine w_aload_n d_M_touch_48 rfl ?_
      refine w_getf g_M_54 d_M_touch_49 hM rfl (by decide) ?_
      refine w_iload d_M_touch_52 rfl ?_
      refine w_iconst 1 d_M_touch_54 (by decide) ?_
      refine w_zast d_M_touch_55 h2 rfl (show f < 16 by omega) (by decide) (by decide) (by decide) ?_
      exact w_vret d_M_touch_56 rfl (found f hfl hfd)
theorem m_touch {p : QP} {ob : Option Nat} {lv pl : Nat} {c : Nat → va_E} (hM : c 79 = oM a m t o l p d b an) (hP : mP X c p) (ho : okO ob) (hl : lv < 4) (hpl : pl < 16) (hn2 : 2 ≤ p.1) (hn : p.1 ≤ 16) (hh : p.2.2.2.1 < p.1) (hpk : pOk p.1 p.2) :
    GW X a m_M_touch 0 0 0 0 0 (lv_args 0 [.ref (a 79), .int (nI (mof ob)), .int (nI lv), .int (nI pl)]) [] c (pV (fun w => w 79 = oM a m t o l (tchQ p ob lv pl) d b an ∧ mP X w (tchQ p ob lv pl) ∧ same c w [79, 89, 90])) := by
  obtain ⟨PP, MM, h1, h2, h3⟩ := hP
  have e1 : (10000 : Int32) * nI (mof ob) = nI (10000 * mof ob) := by rw [show (10000 : Int32) = nI 10000 from rfl, pk_mul]
  have e2 : (100 : Int32) * nI lv = nI (100 * lv) := by rw [show (100 : Int32) = nI 100 from rfl, pk_mul]
  -- not found: the hand goes on
  have key : ∀ c1 : Nat → va_E, c1 79 = oM a m t o l (p.1, p.2.1, p.2.2.1, p.2.2.2.1, p.2.2.2.2.1 + 1, p.2.2.2.2.2) d b an → c1 89 = aI X 16 PP → c1 90 = aZ X 16 MM → same c c1 [79, 89, 90] → fdGo p.2.1 (nI (pgN ob lv pl)) p.1 0 = none →
      GW X a m_M_touch 0 0 0 0 63 [(0, .ref (a 79)), (4, .int (nI (10000 * mof ob + 100 * lv + pl)))] [] c1 (pV (fun w => w 79 = oM a m t o l (tchQ p ob lv pl) d b an ∧ mP X w (tchQ p ob lv pl) ∧ same c w [79, 89, 90])) := by
    intro c1 hM1 q1 q2 hs hnone
    have htch : tchP p.1 (nI (pgN ob lv pl)) p.2 = (upd p.2.1 (ffGo p.1 p.1 p.2.2.1 p.2.2.2.1).2 (nI (pgN ob lv pl)), upd (ffGo p.1 p.1 p.2.2.1 p.2.2.2.1).1 (ffGo p.1 p.1 p.2.2.1 p.2.2.2.1).2 1, nxH p.1 (ffGo p.1 p.1 p.2.2.1 p.2.2.2.1).2, p.2.2.2.2.1 + 1, p.2.2.2.2.2 + 1) := by unfold tchP; rw [hnone]
    have hlt : (ffGo p.1 p.1 p.2.2.1 p.2.2.2.1).2 < p.1 := ffGo_lt (by omega) hh
    refine w_aload_n d_M_touch_63 rfl ?_
    refine w_dup d_M_touch_64 rfl ?_
    refine w_getf g_M_174 d_M_touch_65 hM1 rfl (by decide) ?_
    refine w_iconst 1 d_M_touch_68 (by decide) ?_
    refine w_iadd d_M_touch_69 ?_
    rw [show nI (p.1, p.2.1, p.2.2.1, p.2.2.2.1, p.2.2.2.2.1 + 1, p.2.2.2.2.2).2.2.2.2.2 + 1 = nI (p.2.2.2.2.2 + 1) from nI_1 _]
    refine w_putf p_M_174 d_M_touch_70 hM1 rfl rfl (gqL rfl) (by decide) ?_
    refine m_ffGo (nF := p.1) (tc := p.2.2.2.2.1 + 1) (ms := p.2.2.2.2.2 + 1) (PP := PP) (pg := p.2.1) hn2 hn (c0 := c) (mr0 := p.2.2.1) (hd0 := p.2.2.2.1) ?_ p.1 p.2.2.1 p.2.2.2.1 _ MM hh (liveL_len _ _) rfl (same_trans hs (same_up (by simp))) rfl (va_n (by decide) q1) (va_n (by decide) q2) (fun f hf => (h3 f hf).2)
    intro c2 M2 s2 r1 r2 r3 r4
    generalize hG : ffGo p.1 p.1 p.2.2.1 p.2.2.2.1 = G at htch hlt r1 r4
    refine w_aload_n d_M_touch_113 rfl ?_
    refine w_getf g_M_51 d_M_touch_114 r1 rfl (by decide) ?_
    refine w_aload_n d_M_touch_117 rfl ?_
    refine w_getf g_M_177 d_M_touch_118 r1 rfl (by decide) ?_
    refine w_iload d_M_touch_121 rfl ?_
    refine w_iast d_M_touch_123 r2 rfl (show G.2 < 16 by omega) (by decide) (by decide) ?_
    refine w_aload_n d_M_touch_124 rfl ?_
    refine w_getf g_M_54 d_M_touch_125 (va_n (by decide) r1) rfl (by decide) ?_
    refine w_aload_n d_M_touch_128 rfl ?_
    refine w_getf g_M_177 d_M_touch_129 (va_n (by decide) r1) rfl (by decide) ?_
    refine w_iconst 1 d_M_touch_132 (by decide) ?_
    refine w_zast d_M_touch_133 (va_n (by decide) r3) rfl (show G.2 < 16 by omega) (by decide) (by decide) (by decide) ?_
    refine w_aload_n d_M_touch_134 rfl ?_
    refine w_aload_n d_M_touch_135 rfl ?_
    refine w_getf g_M_177 d_M_touch_136 (va_n (by decide) (va_n (by decide) r1)) rfl (by decide) ?_
    refine w_iconst 1 d_M_touch_139 (by decide) ?_
    refine w_iadd d_M_touch_140 ?_
    rw [show nI (p.1, p.2.1, G.1, G.2, p.2.2.2.2.1 + 1, p.2.2.2.2.2 + 1).2.2.2.1 + 1 = nI (G.2 + 1) from nI_1 _]
    refine w_aload_n d_M_touch_141 rfl ?_
    refine w_getf g_M_69 d_M_touch_142 (va_n (by decide) (va_n (by decide) r1)) rfl (by decide) ?_
    refine w_irem d_M_touch_145 (fun z => absurd ((nI_eq (a := p.1) (b := 0) (by omega) (by decide)).mp z) (by omega)) ?_
    rw [show nI (G.2 + 1) - nI (G.2 + 1) / nI (p.1, p.2.1, G.1, G.2, p.2.2.2.2.1 + 1, p.2.2.2.2.2 + 1).1 * nI (p.1, p.2.1, G.1, G.2, p.2.2.2.2.1 + 1, p.2.2.2.2.2 + 1).1 = nI (nxH p.1 G.2) from rem_ok hn2 hn hlt]
    refine w_putf p_M_177 d_M_touch_146 (va_n (by decide) (va_n (by decide) r1)) rfl rfl (gqL rfl) (by decide) ?_
    exact w_vret d_M_touch_149 rfl (⟨rfl, by unfold tchQ; rw [htch]; rfl, ⟨_, _, rfl, rfl, fun f hf => by unfold tchQ; rw [htch]; show upd PP G.2 (nI (10000 * mof ob + 100 * lv + pl)) f = cod (upd p.2.1 G.2 (nI (pgN ob lv pl)) f) ∧ upd M2 G.2 1 f = upd G.1 G.2 1 f; by_cases e : f = G.2; (rw [e, pk_us, pk_us, pk_us, pk_us]; exact ⟨(cod_pg ho hl hpl).symm, rfl⟩); (rw [pk_un e, pk_un e, pk_un e, pk_un e]; exact ⟨(h3 f hf).1, r4 f hf⟩)⟩, same_trans s2 (same_trans (same_trans (same_up (by simp)) (same_up (by simp))) (same_up (by simp)))⟩)
  refine w_sipush 10000 d_M_touch_0 (by decide) ?_
  refine w_iload_n d_M_touch_3 rfl ?_
  refine w_imul d_M_touch_4 ?_
  rw [e1]
  refine w_bipush 100 d_M_touch_5 (by decide) ?_
  refine w_iload_n d_M_touch_7 rfl ?_
  refine w_imul d_M_touch_8 ?_
  rw [e2]
  refine w_iadd d_M_touch_9 ?_
  rw [nI_add]
  refine w_iload_n d_M_touch_10 rfl ?_
  refine w_iadd d_M_touch_11 ?_
  rw [nI_add]
  refine w_istore d_M_touch_12 (by decide) ?_
  refine w_aload_n d_M_touch_14 rfl ?_
  refine w_dup d_M_touch_15 rfl ?_
  refine w_getf g_M_171 d_M_touch_16 hM rfl (by decide) ?_
  refine w_iconst 1 d_M_touch_19 (by decide) ?_
  refine w_iadd d_M_touch_20 ?_
  rw [nI_1]
  refine w_putf p_M_171 d_M_touch_21 hM rfl rfl (gqL rfl) (by decide) ?_
  refine w_iconst 0 d_M_touch_24 (by decide) ?_
  refine w_istore d_M_touch_25 (by decide) ?_
  have hM1 : va_up c 79 (oM a m t o l (p.1, p.2.1, p.2.2.1, p.2.2.2.1, p.2.2.2.2.1 + 1, p.2.2.2.2.2) d b an) 79 = oM a m t o l (p.1, p.2.1, p.2.2.1, p.2.2.2.1, p.2.2.2.2.1 + 1, p.2.2.2.2.2) d b an := va_s
  refine w_sel [0, 4, 5] rfl (m_fdGo (p := (p.1, p.2.1, p.2.2.1, p.2.2.2.1, p.2.2.2.2.1 + 1, p.2.2.2.2.2)) ho hl hpl hn hpk (va_n (by decide) h1) (va_n (by decide) h2) h3 hM1 (fun f hf hfd => ?_) (fun hnone => key _ hM1 (va_n (by decide) h1) (va_n (by decide) h2) (same_up (by simp)) hnone) p.1 0 (Nat.zero_add _) rfl)
  have htch : tchP p.1 (nI (pgN ob lv pl)) p.2 = (p.2.1, upd p.2.2.1 f 1, p.2.2.2.1, p.2.2.2.2.1 + 1, p.2.2.2.2.2) := by unfold tchP; rw [show fdGo p.2.1 (nI (pgN ob lv pl)) p.1 0 = some f from hfd]
  refine ⟨rfl, by unfold tchQ; rw [htch]; rfl, ⟨PP, _, va_n (by decide) (va_n (by decide) h1), va_s, fun g hg => ?_⟩, same_trans (same_up (by simp)) (same_up (by simp))⟩
  unfold tchQ
  rw [htch]
  show PP g = cod (p.2.1 g) ∧ upd MM f 1 g = upd p.2.2.1 f 1 g
  by_cases e : g = f
  · rw [e, pk_us, pk_us]; exact ⟨(h3 f hf).1, rfl⟩
  · rw [pk_un e, pk_un e]; exact h3 g hg
end MTO
