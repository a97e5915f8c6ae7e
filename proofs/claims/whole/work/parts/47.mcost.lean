/-! The model: firstLeaf, leavesTouched, costBy, wayOf, costOfWay, cost, index -/
-- scratch has changed, no more
def scr (X : gX) (a : Nat → Nat) (c w : Nat → va_E) (m : QM) (t : QT) (o : QO) (l : QL) (p : QP) (d : QD) (b : QB) (an : Nat) : Prop := (∃ sc, w 79 = oM a (m.1, sc) t o l p d b an) ∧ (∃ fr, w 92 = aI X 64 fr) ∧ same c w [79, 92]
theorem cst_n {t : QT} {k : QC} {i : Nat} (hw : ¬ k.1 (fN i) = 0) : cst t k i = nI (costN t.2.2 t.2.1 k.1 k.2.1 k.2.2 t.1 (liv t) i) := by
  show costX _ _ _ _ _ _ _ _ = _
  unfold costX
  rw [if_neg hw]
theorem inQ_le (t : QT) (k : QC) (i : Nat) (h : t.1 ≤ 64) : (inQ t k i).length ≤ 64 := by
  have := List.length_filter_le (stI t.2.1 k.1 k.2.1 k.2.2 i) (liveL t.2.2 t.1)
  have := liv_le t h
  show ((liveL t.2.2 t.1).filter _).length ≤ 64
  have h3 : (liveL t.2.2 t.1).length ≤ 64 := this
  omega
theorem bgQ_le (t : QT) (k : QC) (i : Nat) (h : t.1 ≤ 64) : bgQ t k i ≤ 64 := by
  have := List.length_filter_le (stB t.2.1 k.2.1 k.1 i) (liveL t.2.2 t.1)
  have h3 : (liveL t.2.2 t.1).length ≤ 64 := liv_le t h
  show ((liveL t.2.2 t.1).filter _).length ≤ 64
  omega
theorem cstN_lt (t : QT) (k : QC) (i : Nat) (h : t.1 ≤ 64) : costN t.2.2 t.2.1 k.1 k.2.1 k.2.2 t.1 (liv t) i < 1000 := by
  have h1 := hgt_le (leavesOf (liv t))
  have h2 := inQ_le t k i h
  have h3 := lvT_le (bgQ_le t k i h) h2
  show hgt (leavesOf (liv t)) + lvT (bgQ t k i) (inQ t k i).length + (inQ t k i).length < 1000
  omega
section MV
variable {X : gX} {a : Nat → Nat} {c w : Nat → va_E} {m : QM} {t : QT} {k : QC} {o : QO} {l : QL} {p : QP} {d : QD} {b : QB} {an n q : Nat}
theorem m_firstLeaf {e0 : Int32} {sz bf en : Nat} (hM : c 79 = oM a (e0, sz, bf, en) t o l p d b an) (hH : c 80 = aZ X 64 t.2.2) (hi : t.1 ≤ 64) (hb : bf ≤ 64) : GW X a m_M_firstLeaf 2 43 0 0 0 (lv_args 0 [.ref (a 79)]) [] c (pI (eI (nI (flf bf (liv t))) c)) := by
  have hl := leaves_le (liv_le t hi)
  refine w_aload_n d_M_firstLeaf_0 rfl ?_
  refine w_getf g_M_144 d_M_firstLeaf_1 hM rfl (by decide) ?_
  refine w_iconst 4 d_M_firstLeaf_4 (by decide) ?_
  refine w_idiv d_M_firstLeaf_5 (by decide) ?_
  rw [show nI (e0, sz, bf, en).2.2.1 / 4 = nI (bf / 4) from nI_div4 (n := bf) (by omega)]
  refine w_istore_n d_M_firstLeaf_6 (by decide) ?_
  refine w_iload_n d_M_firstLeaf_7 rfl ?_
  refine w_aload_n d_M_firstLeaf_8 rfl ?_
  refine w_vI [] c_M_120 d_M_firstLeaf_9 rfl hM (by decide) (m_leaves hM hH hi) (fun x w hw => ?_) rfl rfl (gq rfl) (gq rfl) (gq rfl) (gq rfl) (gq rfl) (gq rfl)
  obtain ⟨rfl, rfl⟩ := hw
  refine w_icmp_ge 19 d_M_firstLeaf_12 (by decide) (fun h0 => ?_) (fun h0 => ?_)
  · -- taken
    have h1 : ¬ bf / 4 < leavesOf (liv t) := fun z => lt_nle (nI_lt z (by omega)) h0
    refine w_aload_n d_M_firstLeaf_19 rfl ?_
    refine w_vI [] c_M_120 d_M_firstLeaf_20 rfl hM (by decide) (m_leaves hM hH hi) (fun x w hw => ?_) rfl rfl (gq rfl) (gq rfl) (gq rfl) (gq rfl) (gq rfl) (gq rfl)
    obtain ⟨rfl, rfl⟩ := hw
    refine w_iconst 1 d_M_firstLeaf_23 (by decide) ?_
    refine w_isub d_M_firstLeaf_24 ?_
    rw [show nI (leavesOf (liv t)) - 1 = nI (leavesOf (liv t) - 1) from pk_sub (b := 1) hl.2]
    exact w_iret d_M_firstLeaf_25 rfl (⟨_, rfl, by unfold flf; rw [if_neg h1], rfl⟩)
  · -- not taken
    have h1 : bf / 4 < leavesOf (liv t) := (nI_ltI (by omega) (by omega)).mp (nle_lt h0)
    refine w_iload_n d_M_firstLeaf_15 rfl ?_
    refine w_goto 25 d_M_firstLeaf_16 (by decide) ?_
    exact w_iret d_M_firstLeaf_25 rfl (⟨_, rfl, by unfold flf; rw [if_pos h1], rfl⟩)
theorem m_leavesT {e0 : Int32} {sz bf cn : Nat} (hM : c 79 = oM a (e0, sz, bf, bf + cn) t o l p d b an) (hb : bf ≤ 64) (hn : cn ≤ 64) : GW X a m_M_leavesTouched 0 0 0 0 0 (lv_args 0 [.ref (a 79)]) [] c (pI (eI (nI (lvT bf cn)) c)) := by
  refine w_aload_n d_M_leavesTouched_0 rfl ?_
  refine w_getf g_M_150 d_M_leavesTouched_1 hM rfl (by decide) ?_
  refine w_aload_n d_M_leavesTouched_4 rfl ?_
  refine w_getf g_M_144 d_M_leavesTouched_5 hM rfl (by decide) ?_
  refine w_icmp_ne 15 d_M_leavesTouched_8 (by decide) (fun h0 => ?_) (fun h0 => ?_)
  · -- taken
    have h1 : ¬ cn = 0 := fun z => h0 (by rw [z]; rfl)
    refine w_aload_n d_M_leavesTouched_15 rfl ?_
    refine w_getf g_M_150 d_M_leavesTouched_16 hM rfl (by decide) ?_
    refine w_iconst 1 d_M_leavesTouched_19 (by decide) ?_
    refine w_isub d_M_leavesTouched_20 ?_
    rw [show nI (e0, sz, bf, bf + cn).2.2.2 - 1 = nI (bf + cn - 1) from pk_sub (a := bf + cn) (b := 1) (by omega)]
    refine w_iconst 4 d_M_leavesTouched_21 (by decide) ?_
    refine w_idiv d_M_leavesTouched_22 (by decide) ?_
    rw [nI_div4 (by omega)]
    refine w_aload_n d_M_leavesTouched_23 rfl ?_
    refine w_getf g_M_144 d_M_leavesTouched_24 hM rfl (by decide) ?_
    refine w_iconst 4 d_M_leavesTouched_27 (by decide) ?_
    refine w_idiv d_M_leavesTouched_28 (by decide) ?_
    rw [show nI (e0, sz, bf, bf + cn).2.2.1 / 4 = nI (bf / 4) from nI_div4 (n := bf) (by omega)]
    refine w_isub d_M_leavesTouched_29 ?_
    rw [pk_sub (by omega)]
    refine w_iconst 1 d_M_leavesTouched_30 (by decide) ?_
    refine w_iadd d_M_leavesTouched_31 ?_
    rw [nI_1]
    exact w_iret d_M_leavesTouched_32 rfl (⟨_, rfl, by unfold lvT; rw [if_neg h1], rfl⟩)
  · -- not taken
    have h1 : cn = 0 := by have := (nI_eq (a := bf + cn) (b := bf) (by omega) (by omega)).mp h0; omega
    refine w_iconst 1 d_M_leavesTouched_11 (by decide) ?_
    refine w_goto 32 d_M_leavesTouched_12 (by decide) ?_
    exact w_iret d_M_leavesTouched_32 rfl (⟨_, rfl, by unfold lvT; rw [if_pos h1]; rfl, rfl⟩)
theorem m_costBy {i : Nat} {fr : Nat → Int32} (hM : c 79 = oM a m t o l p d b an) (hQ : mq X c t q k) (hE : c 92 = aI X 64 fr) (hk : kOk k.1 k.2.1 k.2.2) (hq : q ≤ 8) (ht : t.1 ≤ 64) (hi : i < 9) (hw : ¬ k.1 (fN i) = 0) :
    GW X a m_M_costBy 4 94 0 0 0 (lv_args 0 [.ref (a 79), .int (nI q), .int (nI i)]) [] c (pI (fun v w => v = cst t k i ∧ scr X a c w m t o l p d b an)) := by
  have hb := bgQ_le t k i ht
  have hn := inQ_le t k i ht
  refine w_aload_n d_M_costBy_0 rfl ?_
  refine w_iload_n d_M_costBy_1 rfl ?_
  refine w_iload_n d_M_costBy_2 rfl ?_
  refine w_vV [_, _] c_M_156 d_M_costBy_3 rfl hM (by decide) (m_stretch hM hQ hE hk hq ht hi hw) (fun w hw => ?_) rfl rfl (gq rfl) (gq rfl) (gq rfl) (gq rfl) (gq rfl) (gq rfl)
  obtain ⟨w1, ⟨fs, w2, w3⟩, w4⟩ := hw
  have hH1 : w 80 = aZ X 64 t.2.2 := (w4 80 (by decide)).trans hQ.1
  refine w_aload_n d_M_costBy_6 rfl ?_
  refine w_vI [] c_M_126 d_M_costBy_7 rfl w1 (by decide) (m_height w1 hH1 ht) (fun x w hw => ?_) rfl rfl (gq rfl) (gq rfl) (gq rfl) (gq rfl) (gq rfl) (gq rfl)
  obtain ⟨rfl, rfl⟩ := hw
  refine w_aload_n d_M_costBy_10 rfl ?_
  refine w_vI [] c_M_159 d_M_costBy_11 rfl w1 (by decide) (m_leavesT w1 hb hn) (fun x w hw => ?_) rfl rfl (gq rfl) (gq rfl) (gq rfl) (gq rfl) (gq rfl) (gq rfl)
  obtain ⟨rfl, rfl⟩ := hw
  refine w_iadd d_M_costBy_14 ?_
  rw [nI_add]
  refine w_aload_n d_M_costBy_15 rfl ?_
  refine w_getf g_M_150 d_M_costBy_16 w1 rfl (by decide) ?_
  refine w_iadd d_M_costBy_19 ?_
  rw [show nI (hgt (leavesOf (liv t)) + lvT (bgQ t k i) (inQ t k i).length) + nI (m.1, liv t, bgQ t k i, bgQ t k i + (inQ t k i).length).2.2.2 = nI (hgt (leavesOf (liv t)) + lvT (bgQ t k i) (inQ t k i).length + (bgQ t k i + (inQ t k i).length)) from nI_add _ _]
  refine w_aload_n d_M_costBy_20 rfl ?_
  refine w_getf g_M_144 d_M_costBy_21 w1 rfl (by decide) ?_
  refine w_isub d_M_costBy_24 ?_
  rw [show nI (hgt (leavesOf (liv t)) + lvT (bgQ t k i) (inQ t k i).length + (bgQ t k i + (inQ t k i).length)) - nI (m.1, liv t, bgQ t k i, bgQ t k i + (inQ t k i).length).2.2.1 = nI (hgt (leavesOf (liv t)) + lvT (bgQ t k i) (inQ t k i).length + (bgQ t k i + (inQ t k i).length) - bgQ t k i) from pk_sub (b := bgQ t k i) (by omega)]
  exact w_iret d_M_costBy_25 rfl (⟨_, rfl, by rw [cst_n hw, show hgt (leavesOf (liv t)) + lvT (bgQ t k i) (inQ t k i).length + (bgQ t k i + (inQ t k i).length) - bgQ t k i = hgt (leavesOf (liv t)) + lvT (bgQ t k i) (inQ t k i).length + (inQ t k i).length by omega]; rfl, ⟨_, w1⟩, ⟨fs, w2⟩, w4⟩)
abbrev wgQ (t : QT) (k : QC) (s : Nat → Int32) (i : Nat) : Option Nat := wyGo (cst t k) (nI (fours t.1)) (rdyN s 9) i
theorem m_wyGo {e0 : Int32} (hk : kOk k.1 k.2.1 k.2.2) (hq : q ≤ 8) (ht : t.1 ≤ 64) {c0 : Nat → va_E} : ∀ (e i : Nat) (c : Nat → va_E) (sc : Nat × Nat × Nat) (fr : Nat → Int32), i + e = 9 → same c0 c [79, 92] → c 79 = oM a (e0, sc) t o l p d b an → mq X c t q k → c 84 = aI X 9 b.2.2.2 → c 92 = aI X 64 fr →
    GW X a m_M_wayOf 5 116 0 0 11 [(0, .ref (a 79)), (1, .int (nI q)), (2, .int (-1)), (3, .int (oI (wgQ t k b.2.2.2 i))), (4, .int (wyV (cst t k) (nI (fours t.1)) (wgQ t k b.2.2.2 i))), (5, .int (nI i))] [] c (pI (fun v w => v = oI (wgQ t k b.2.2.2 9) ∧ (∃ sc, w 79 = oM a (e0, sc) t o l p d b an) ∧ (∃ fr, w 92 = aI X 64 fr) ∧ same c0 w [79, 92])) := by
  intro e
  induction e with
  | zero =>
    intro i c sc fr hie hs hM hQ hS hE
    have hi9 : i = 9 := by omega
    subst hi9
    refine w_iload d_M_wayOf_11 rfl ?_
    refine w_bipush 9 d_M_wayOf_13 (by decide) ?_
    refine w_icmp_ge 118 d_M_wayOf_15 (by decide) (fun _ => ?_) (fun hn => absurd ((by decide)) hn)
    refine w_iload_n d_M_wayOf_118 rfl ?_
    exact w_iret d_M_wayOf_119 rfl (⟨_, rfl, rfl, ⟨sc, hM⟩, ⟨fr, hE⟩, hs⟩)
  | succ e ih =>
    intro i c sc fr hie hs hM hQ hS hE
    have hi : i < 9 := by omega
    have no : ∀ {c' : Nat → va_E} {sc' : Nat × Nat × Nat} {fr' : Nat → Int32} {lv : List (Nat × Value)}, wgQ t k b.2.2.2 (i + 1) = wgQ t k b.2.2.2 i → same c0 c' [79, 92] → c' 79 = oM a (e0, sc') t o l p d b an → mq X c' t q k → c' 84 = aI X 9 b.2.2.2 → c' 92 = aI X 64 fr' →
        GW X a m_M_wayOf 5 116 0 0 112 [(0, .ref (a 79)), (1, .int (nI q)), (2, .int (-1)), (3, .int (oI (wgQ t k b.2.2.2 i))), (4, .int (wyV (cst t k) (nI (fours t.1)) (wgQ t k b.2.2.2 i))), (5, .int (nI i))] [] c' (pI (fun v w => v = oI (wgQ t k b.2.2.2 9) ∧ (∃ sc, w 79 = oM a (e0, sc) t o l p d b an) ∧ (∃ fr, w 92 = aI X 64 fr) ∧ same c0 w [79, 92])) := by
      intro c' sc' fr' lv hn hs' hM' hQ' hS' hE'
      first | refine w_iinc _ d_M_wayOf_112 rfl (nIinc _) (by decide) ?_ | refine w_iinc _ d_M_wayOf_112 rfl rfl (by decide) ?_
      refine w_goto 11 d_M_wayOf_115 (by decide) ?_
      rw [← hn]
      exact ih (i + 1) c' sc' fr' (by omega) hs' hM' hQ' hS' hE'
    have out : ¬ (bit (rdyN b.2.2.2 9) i = true ∧ ¬ cst t k i = -1 ∧ cst t k i < wyV (cst t k) (nI (fours t.1)) (wgQ t k b.2.2.2 i)) → wgQ t k b.2.2.2 (i + 1) = wgQ t k b.2.2.2 i := fun z => by
      show wyGo _ _ _ (i + 1) = _
      rw [wyGo, if_neg z]
    refine w_iload d_M_wayOf_11 rfl ?_
    refine w_bipush 9 d_M_wayOf_13 (by decide) ?_
    refine w_icmp_ge 118 d_M_wayOf_15 (by decide) (fun hn => absurd hn (fun z => absurd ((nI_leI (a := 9) (by decide) (by omega)).mp z) (by omega))) (fun _ => ?_)
    refine w_iload_n d_M_wayOf_18 rfl ?_
    refine w_if_ge 41 d_M_wayOf_19 (by decide) (fun hn => absurd hn ((by decide))) (fun _ => ?_)
    refine w_aload_n d_M_wayOf_22 rfl ?_
    refine w_getf g_M_23 d_M_wayOf_23 hM rfl (by decide) ?_
    refine w_iload d_M_wayOf_26 rfl ?_
    refine w_iald d_M_wayOf_28 hS rfl hi (by decide) (by decide) ?_
    refine w_iconst 2 d_M_wayOf_29 (by decide) ?_
    refine w_icmp_ne 37 d_M_wayOf_30 (by decide) (fun h2 => ?_) (fun h2 => ?_)
    · -- taken
      have h2' : ¬ bit (rdyN b.2.2.2 9) i = true := fun z => h2 ((rdyN_bit b.2.2.2 9 i).mp z).2
      refine w_iconst 0 d_M_wayOf_37 (by decide) ?_
      refine w_goto 56 d_M_wayOf_38 (by decide) ?_
      refine w_istore d_M_wayOf_56 (by decide) ?_
      refine w_iload d_M_wayOf_58 rfl ?_
      refine w_if_eq 112 d_M_wayOf_60 (by decide) (fun _ => ?_) (fun hn => absurd (rfl) hn)
      refine w_sel [0, 1, 2, 3, 4, 5] rfl (no (lv := []) (out (fun z => h2' z.1)) hs hM hQ hS hE)
    · -- not taken
      have h2' : bit (rdyN b.2.2.2 9) i = true := (rdyN_bit b.2.2.2 9 i).mpr ⟨hi, h2⟩
      refine w_iconst 1 d_M_wayOf_33 (by decide) ?_
      refine w_goto 56 d_M_wayOf_34 (by decide) ?_
      refine w_istore d_M_wayOf_56 (by decide) ?_
      refine w_iload d_M_wayOf_58 rfl ?_
      refine w_if_eq 112 d_M_wayOf_60 (by decide) (fun hn => absurd hn ((by decide))) (fun _ => ?_)
      refine w_aload_n d_M_wayOf_63 rfl ?_
      refine w_iload_n d_M_wayOf_64 rfl ?_
      refine w_iload d_M_wayOf_65 rfl ?_
      refine w_vI [_, _] c_M_165 d_M_wayOf_67 rfl hM (by decide) (m_isWay hM hQ hk hq hi) (fun x w hw => ?_) rfl rfl (gq rfl) (gq rfl) (gq rfl) (gq rfl) (gq rfl) (gq rfl)
      obtain ⟨rfl, rfl⟩ := hw
      refine w_if_eq 112 d_M_wayOf_70 (by decide) (fun h3 => ?_) (fun h3 => ?_)
      · -- taken
        have h3' : k.1 (fN i) = 0 := by simpa using bI_t.mp h3
        have h4 : cst t k i = -1 := by show costX _ _ _ _ _ _ _ _ = _; unfold costX; rw [if_pos h3']
        refine w_sel [0, 1, 2, 3, 4, 5] rfl (no (lv := []) (out (fun z => z.2.1 h4)) hs hM hQ hS hE)
      · -- not taken
        have h3' : ¬ k.1 (fN i) = 0 := by simpa using bI_n.mp h3
        have h4 : ¬ cst t k i = -1 := by rw [cst_n h3']; exact nI_neg (by have := cstN_lt t k i ht; omega)
        refine w_aload_n d_M_wayOf_73 rfl ?_
        refine w_iload_n d_M_wayOf_74 rfl ?_
        refine w_iload d_M_wayOf_75 rfl ?_
        refine w_vI [_, _] c_M_168 d_M_wayOf_77 rfl hM (by decide) (m_costBy hM hQ hE hk hq ht hi h3') (fun x w hw => ?_) rfl rfl (gq rfl) (gq rfl) (gq rfl) (gq rfl) (gq rfl) (gq rfl)
        obtain ⟨rfl, ⟨sc', w1⟩, ⟨fr', w2⟩, w3⟩ := hw
        have hs' : same c0 w [79, 92] := same_trans hs w3
        have hQ' : mq X w t q k := hQ.keep w3 (by simp)
        have hS' : w 84 = aI X 9 b.2.2.2 := (w3 84 (by decide)).trans hS
        refine w_istore d_M_wayOf_80 (by decide) ?_
        refine w_iload d_M_wayOf_82 rfl ?_
        refine w_iload d_M_wayOf_84 rfl ?_
        refine w_icmp_ge 94 d_M_wayOf_86 (by decide) (fun h5 => ?_) (fun h5 => ?_)
        · -- taken
          refine w_iload_n d_M_wayOf_94 rfl ?_
          refine w_istore_n d_M_wayOf_95 (by decide) ?_
          refine w_iload d_M_wayOf_96 rfl ?_
          refine w_iload d_M_wayOf_98 rfl ?_
          refine w_icmp_ge 108 d_M_wayOf_100 (by decide) (fun _ => ?_) (fun hn => absurd (h5) hn)
          refine w_iload d_M_wayOf_108 rfl ?_
          refine w_istore d_M_wayOf_110 (by decide) ?_
          refine w_sel [0, 1, 2, 3, 4, 5] rfl (no (lv := []) (out (fun z => lt_nle z.2.2 h5)) hs' w1 hQ' hS' w2)
        · -- not taken
          have hy : wgQ t k b.2.2.2 (i + 1) = some i := by show wyGo _ _ _ (i + 1) = _; rw [wyGo, if_pos ⟨h2', h4, nle_lt h5⟩]
          have kk := ih (i + 1) w sc' fr' (by omega) hs' w1 hQ' hS' w2
          rw [hy] at kk
          refine w_iload d_M_wayOf_89 rfl ?_
          refine w_goto 95 d_M_wayOf_91 (by decide) ?_
          refine w_istore_n d_M_wayOf_95 (by decide) ?_
          refine w_iload d_M_wayOf_96 rfl ?_
          refine w_iload d_M_wayOf_98 rfl ?_
          refine w_icmp_ge 108 d_M_wayOf_100 (by decide) (fun hn => absurd hn (h5)) (fun _ => ?_)
          refine w_iload d_M_wayOf_103 rfl ?_
          refine w_goto 110 d_M_wayOf_105 (by decide) ?_
          refine w_istore d_M_wayOf_110 (by decide) ?_
          first | refine w_iinc _ d_M_wayOf_112 rfl (nIinc _) (by decide) ?_ | refine w_iinc _ d_M_wayOf_112 rfl rfl (by decide) ?_
          refine w_goto 11 d_M_wayOf_115 (by decide) ?_
          exact w_sel [0, 1, 2, 3, 4, 5] rfl kk
theorem m_wayOf {fr : Nat → Int32} (hM : c 79 = oM a m t o l p d b an) (hQ : mq X c t q k) (hE : c 92 = aI X 64 fr) (hS : c 84 = aI X 9 b.2.2.2) (hk : kOk k.1 k.2.1 k.2.2) (hq : q ≤ 8) (ht : t.1 ≤ 64) :
    GW X a m_M_wayOf 5 116 0 0 0 (lv_args 0 [.ref (a 79), .int (nI q), .int (-1)]) [] c (pI (fun v w => v = oI (wgQ t k b.2.2.2 9) ∧ scr X a c w m t o l p d b an)) := by
  refine w_iconst (-1) d_M_wayOf_0 (by decide) ?_
  refine w_istore_n d_M_wayOf_1 (by decide) ?_
  refine w_aload_n d_M_wayOf_2 rfl ?_
  refine w_vI [] c_M_162 d_M_wayOf_3 rfl hM (by decide) (m_heapPages hM ht) (fun x w hw => ?_) rfl rfl (gq rfl) (gq rfl) (gq rfl) (gq rfl) (gq rfl) (gq rfl)
  obtain ⟨rfl, rfl⟩ := hw
  refine w_istore d_M_wayOf_6 (by decide) ?_
  refine w_iconst 0 d_M_wayOf_8 (by decide) ?_
  refine w_istore d_M_wayOf_9 (by decide) ?_
  exact m_wyGo (e0 := m.1) hk hq ht 9 0 c m.2 fr rfl same_rf hM hQ hS hE
theorem m_costOfWay {fr : Nat → Int32} {y : Option Nat} (hM : c 79 = oM a m t o l p d b an) (hQ : mq X c t q k) (hE : c 92 = aI X 64 fr) (hk : kOk k.1 k.2.1 k.2.2) (hq : q ≤ 8) (ht : t.1 ≤ 64) (hy : ∀ i, y = some i → i < 9 ∧ ¬ k.1 (fN i) = 0) :
    GW X a m_M_costOfWay 5 116 0 0 0 (lv_args 0 [.ref (a 79), .int (nI q), .int (oI y)]) [] c (pI (fun v w => v = wyV (cst t k) (nI (fours t.1)) y ∧ scr X a c w m t o l p d b an)) := by
  rcases opt_or y with rfl | ⟨i, rfl⟩
  · skip
    refine w_iload_n d_M_costOfWay_0 rfl ?_
    refine w_if_ge 11 d_M_costOfWay_1 (by decide) (fun hn => absurd hn ((by decide))) (fun _ => ?_)
    refine w_aload_n d_M_costOfWay_4 rfl ?_
    refine w_vI [] c_M_162 d_M_costOfWay_5 rfl hM (by decide) (m_heapPages hM ht) (fun x w hw => ?_) rfl rfl (gq rfl) (gq rfl) (gq rfl) (gq rfl) (gq rfl) (gq rfl)
    obtain ⟨rfl, rfl⟩ := hw
    refine w_goto 17 d_M_costOfWay_8 (by decide) ?_
    exact w_iret d_M_costOfWay_17 rfl (⟨_, rfl, rfl, ⟨_, hM⟩, ⟨fr, hE⟩, same_rf⟩)
  · obtain ⟨h1, h2⟩ := hy i rfl
    refine w_iload_n d_M_costOfWay_0 rfl ?_
    refine w_if_ge 11 d_M_costOfWay_1 (by decide) (fun _ => ?_) (fun hn => absurd (nI_pos' (by omega)) hn)
    refine w_aload_n d_M_costOfWay_11 rfl ?_
    refine w_iload_n d_M_costOfWay_12 rfl ?_
    refine w_iload_n d_M_costOfWay_13 rfl ?_
    refine w_vI [_, _] c_M_168 d_M_costOfWay_14 rfl hM (by decide) (m_costBy hM hQ hE hk hq ht h1 h2) (fun x w hw => ?_) rfl rfl (gq rfl) (gq rfl) (gq rfl) (gq rfl) (gq rfl) (gq rfl)
    obtain ⟨rfl, hs⟩ := hw
    exact w_iret d_M_costOfWay_17 rfl (⟨_, rfl, rfl, hs⟩)
-- a way that was taken is a way
theorem wg_way {t : QT} {k : QC} {s : Nat → Int32} : ∀ {j i : Nat}, wgQ t k s j = some i → ¬ k.1 (fN i) = 0
  | 0, i, e => by cases e
  | j + 1, i, e => by
    have e' : wyGo (cst t k) (nI (fours t.1)) (rdyN s 9) (j + 1) = some i := e
    unfold wyGo at e'
    split at e'
    · rename_i z
      cases e'
      intro z2
      refine z.2.1 ?_
      show costX _ _ _ _ _ _ _ _ = _
      unfold costX
      rw [if_pos z2]
    · exact wg_way (j := j) e'
end MV
