/-! Pool -/
abbrev oP (a : Nat → Nat) (hd t ms : Nat) : va_E := .inr (5, [.ref (a 14), .ref (a 15), .int (nI hd), .int (nI t), .int (nI ms)])
-- a pool: pages, marks, hand, touched, misses
abbrev PS : Type := (Nat → Int32) × (Nat → Int32) × Nat × Nat × Nat
def pol (X : gX) (a : Nat → Nat) (c : Nat → va_E) (nF : Nat) (P : PS) : Prop := c 13 = oP a P.2.2.1 P.2.2.2.1 P.2.2.2.2 ∧ c 14 = aI X nF P.1 ∧ c 15 = aZ X nF P.2.1
def nxH (nF hd : Nat) : Nat := if hd + 1 < nF then hd + 1 else 0
def ffGo (nF : Nat) : Nat → (Nat → Int32) → Nat → (Nat → Int32) × Nat
  | 0, mr, hd => (mr, hd)
  | k + 1, mr, hd => if mr hd = 0 then (mr, hd) else ffGo nF k (upd mr hd 0) (nxH nF hd)
def fdGo (pg : Nat → Int32) (p : Int32) : Nat → Nat → Option Nat
  | 0, _ => none
  | d + 1, k => if pg k = p then some k else fdGo pg p d (k + 1)
def tchP (nF : Nat) (p : Int32) (P : PS) : PS := match fdGo P.1 p nF 0 with
  | some f => (P.1, upd P.2.1 f 1, P.2.2.1, P.2.2.2.1 + 1, P.2.2.2.2)
  | none => (upd P.1 (ffGo nF nF P.2.1 P.2.2.1).2 p, upd (ffGo nF nF P.2.1 P.2.2.1).1 (ffGo nF nF P.2.1 P.2.2.1).2 1, nxH nF (ffGo nF nF P.2.1 P.2.2.1).2, P.2.2.2.1 + 1, P.2.2.2.2 + 1)
def ofN : Option Nat → Nat
  | none => 0
  | some i => i + 1
def pgN (o : Option Nat) (l pl : Nat) : Nat := (ofN o * 4 + l) * 16 + pl
theorem nxH_lt {nF hd : Nat} (h : 0 < nF) : nxH nF hd < nF := by unfold nxH; split <;> omega
theorem ffGo_lt {nF : Nat} (h : 0 < nF) : ∀ {k : Nat} {mr : Nat → Int32} {hd : Nat}, hd < nF → (ffGo nF k mr hd).2 < nF
  | 0, _, _, hh => hh
  | k + 1, mr, hd, hh => by
    unfold ffGo
    split
    · exact hh
    · exact ffGo_lt h (nxH_lt h)
theorem fdGo_lt {pg : Nat → Int32} {p : Int32} : ∀ {d k f : Nat}, fdGo pg p d k = some f → k ≤ f ∧ f < k + d ∧ pg f = p
  | 0, k, f, e => by cases e
  | d + 1, k, f, e => by
    unfold fdGo at e
    split at e
    · cases e; rename_i h; exact ⟨Nat.le_refl _, by omega, h⟩
    · have := fdGo_lt e
      exact ⟨by omega, by omega, this.2.2⟩
theorem pgN_eq {o : Option Nat} {l pl : Nat} : ((oI o + 1) * 4 + nI l) * 16 + nI pl = nI (pgN o l pl) := by
  have e : oI o + 1 = nI (ofN o) := by
    cases o with
    | none => decide
    | some i => exact nI_1 i
  rw [e, show (4 : Int32) = nI 4 from rfl, show (16 : Int32) = nI 16 from rfl, pk_mul, nI_add, pk_mul, nI_add]
  rfl
section PL
variable {X : gX} {a : Nat → Nat} {c : Nat → va_E} {nF : Nat} {P : PS}
theorem p_countAnew (hP : pol X a c nF P) : GW X a m_P_countAnew 0 0 0 0 0 (lv_args 0 [.ref (a 13)]) [] c (pV (fun w => pol X a w nF (P.1, P.2.1, P.2.2.1, 0, 0) ∧ same c w [13, 14, 15])) := by
  obtain ⟨h1, h2, h3⟩ := hP
  refine w_aload_n d_P_countAnew_0 rfl ?_
  refine w_iconst 0 d_P_countAnew_1 (by decide) ?_
  refine w_putf p_P_28 d_P_countAnew_2 h1 rfl rfl (gqL rfl) (by decide) ?_
  refine w_aload_n d_P_countAnew_5 rfl ?_
  refine w_iconst 0 d_P_countAnew_6 (by decide) ?_
  refine w_putf p_P_32 d_P_countAnew_7 rfl rfl rfl (gqL rfl) (by decide) ?_
  exact w_vret d_P_countAnew_10 rfl (⟨rfl, ⟨rfl, h2, h3⟩, same_trans (same_up (by simp)) (same_up (by simp))⟩)
theorem p_moveHand (hP : pol X a c nF P) (hn : nF ≤ 16) (hh : P.2.2.1 < nF) : GW X a m_P_moveHand 0 0 0 0 0 (lv_args 0 [.ref (a 13)]) [] c (pV (fun w => pol X a w nF (P.1, P.2.1, nxH nF P.2.2.1, P.2.2.2.1, P.2.2.2.2) ∧ same c w [13, 14, 15])) := by
  obtain ⟨h1, h2, h3⟩ := hP
  refine w_aload_n d_P_moveHand_0 rfl ?_
  refine w_aload_n d_P_moveHand_1 rfl ?_
  refine w_getf g_P_43 d_P_moveHand_2 h1 rfl (by decide) ?_
  refine w_iconst 1 d_P_moveHand_5 (by decide) ?_
  refine w_iadd d_P_moveHand_6 ?_
  rw [nI_1]
  refine w_aload_n d_P_moveHand_7 rfl ?_
  refine w_getf g_P_20 d_P_moveHand_8 h1 rfl (by decide) ?_
  refine w_alen d_P_moveHand_11 h2 (by decide) ?_
  refine w_icmp_ge 24 d_P_moveHand_12 (by decide) (fun hz => ?_) (fun hz => ?_)
  · -- taken
    have hz' : nF ≤ P.2.2.1 + 1 := (nI_leI (by omega) (by omega)).mp hz
    refine w_iconst 0 d_P_moveHand_24 (by decide) ?_
    refine w_putf p_P_43 d_P_moveHand_25 h1 rfl rfl (gqL rfl) (by decide) ?_
    exact w_vret d_P_moveHand_28 rfl (⟨rfl, ⟨by unfold nxH; rw [if_neg (by omega)]; rfl, h2, h3⟩, same_up (by simp)⟩)
  · -- not taken
    have hz' : P.2.2.1 + 1 < nF := Nat.not_le.mp (fun z => hz ((nI_leI (by omega) (by omega)).mpr z))
    refine w_aload_n d_P_moveHand_15 rfl ?_
    refine w_getf g_P_43 d_P_moveHand_16 h1 rfl (by decide) ?_
    refine w_iconst 1 d_P_moveHand_19 (by decide) ?_
    refine w_iadd d_P_moveHand_20 ?_
    rw [nI_1]
    refine w_goto 25 d_P_moveHand_21 (by decide) ?_
    refine w_putf p_P_43 d_P_moveHand_25 h1 rfl rfl (gqL rfl) (by decide) ?_
    exact w_vret d_P_moveHand_28 rfl (⟨rfl, ⟨by unfold nxH; rw [if_pos hz']; rfl, h2, h3⟩, same_up (by simp)⟩)
theorem p_fdGo {p : Int32} (hP : pol X a c nF P) (hn : nF ≤ 16) : ∀ (d k : Nat), k + d = nF → GW X a m_P_frameOf 0 0 0 0 2 [(0, .ref (a 13)), (1, .int p), (2, .int (nI k))] [] c (pI (eI (oI (fdGo P.1 p d k)) c)) := by
  obtain ⟨h1, h2, h3⟩ := hP
  intro d
  induction d with
  | zero =>
    intro k hk
    refine w_iload_n d_P_frameOf_2 rfl ?_
    refine w_aload_n d_P_frameOf_3 rfl ?_
    refine w_getf g_P_20 d_P_frameOf_4 h1 rfl (by decide) ?_
    refine w_alen d_P_frameOf_7 h2 (by decide) ?_
    refine w_icmp_ge 29 d_P_frameOf_8 (by decide) (fun _ => ?_) (fun hn => absurd ((nI_leI (by omega) (by omega)).mpr (by omega)) hn)
    refine w_iconst (-1) d_P_frameOf_29 (by decide) ?_
    exact w_iret d_P_frameOf_30 rfl (⟨_, rfl, rfl, rfl⟩)
  | succ d ih =>
    intro k hk
    have key := ih (k + 1) (by omega)
    refine w_iload_n d_P_frameOf_2 rfl ?_
    refine w_aload_n d_P_frameOf_3 rfl ?_
    refine w_getf g_P_20 d_P_frameOf_4 h1 rfl (by decide) ?_
    refine w_alen d_P_frameOf_7 h2 (by decide) ?_
    refine w_icmp_ge 29 d_P_frameOf_8 (by decide) (fun hn => absurd hn (fun z => absurd ((nI_leI (by omega) (by omega)).mp z) (by omega))) (fun _ => ?_)
    refine w_aload_n d_P_frameOf_11 rfl ?_
    refine w_getf g_P_20 d_P_frameOf_12 h1 rfl (by decide) ?_
    refine w_iload_n d_P_frameOf_15 rfl ?_
    refine w_iald d_P_frameOf_16 h2 rfl (by omega) (by omega) (by decide) ?_
    refine w_iload_n d_P_frameOf_17 rfl ?_
    refine w_icmp_ne 23 d_P_frameOf_18 (by decide) (fun hz => ?_) (fun hz => ?_)
    · -- taken
      have e : fdGo P.1 p (d + 1) k = fdGo P.1 p d (k + 1) := by rw [fdGo, if_neg hz]
      rw [e]
      first | refine w_iinc _ d_P_frameOf_23 rfl (nIinc _) (by decide) ?_ | refine w_iinc _ d_P_frameOf_23 rfl rfl (by decide) ?_
      refine w_goto 2 d_P_frameOf_26 (by decide) ?_
      exact key
    · -- not taken
      have e : fdGo P.1 p (d + 1) k = some k := by rw [fdGo, if_pos hz]
      refine w_iload_n d_P_frameOf_21 rfl ?_
      exact w_iret d_P_frameOf_22 rfl (⟨_, rfl, by rw [e]; rfl, rfl⟩)
theorem p_frameOf {p : Int32} (hP : pol X a c nF P) (hn : nF ≤ 16) : GW X a m_P_frameOf 0 0 0 0 0 (lv_args 0 [.ref (a 13), .int p]) [] c (pI (eI (oI (fdGo P.1 p nF 0)) c)) := by
  refine w_iconst 0 d_P_frameOf_0 (by decide) ?_
  refine w_istore_n d_P_frameOf_1 (by decide) ?_
  exact p_fdGo hP hn nF 0 (by omega)
theorem p_ffGo (hn : nF ≤ 16) (h0 : 0 < nF) : ∀ (d k : Nat) (c : Nat → va_E) (P : PS), k + d = nF → pol X a c nF P → P.2.2.1 < nF →
    GW X a m_P_freeFrame 1 20 0 0 2 [(0, .ref (a 13)), (1, .int (nI k))] [] c (pI (fun x w => x = nI (ffGo nF d P.2.1 P.2.2.1).2 ∧ pol X a w nF (P.1, (ffGo nF d P.2.1 P.2.2.1).1, nxH nF (ffGo nF d P.2.1 P.2.2.1).2, P.2.2.2.1, P.2.2.2.2) ∧ same c w [13, 14, 15])) := by
  intro d
  have out : ∀ (k : Nat) (c : Nat → va_E) (P : PS), pol X a c nF P → P.2.2.1 < nF → GW X a m_P_freeFrame 1 20 0 0 43 [(0, .ref (a 13)), (1, .int (nI k))] [] c (pI (fun x w => x = nI P.2.2.1 ∧ pol X a w nF (P.1, P.2.1, nxH nF P.2.2.1, P.2.2.2.1, P.2.2.2.2) ∧ same c w [13, 14, 15])) := by
    intro k c P hP hh
    refine w_aload_n d_P_freeFrame_43 rfl ?_
    refine w_getf g_P_43 d_P_freeFrame_44 hP.1 rfl (by decide) ?_
    refine w_istore_n d_P_freeFrame_47 (by decide) ?_
    refine w_aload_n d_P_freeFrame_48 rfl ?_
    refine w_vV [] c_P_46 d_P_freeFrame_49 rfl hP.1 (by decide) (p_moveHand hP hn hh) (fun w hw => ?_) rfl rfl (gq rfl) (gq rfl) (gq rfl) (gq rfl) (gq rfl) (gq rfl)
    obtain ⟨h1, h2⟩ := hw
    refine w_iload_n d_P_freeFrame_52 rfl ?_
    exact w_iret d_P_freeFrame_53 rfl (⟨_, rfl, rfl, h1, h2⟩)
  induction d with
  | zero =>
    intro k c P hk hP hh
    have e : k = nF := by omega
    subst e
    refine w_iload_n d_P_freeFrame_2 rfl ?_
    refine w_aload_n d_P_freeFrame_3 rfl ?_
    refine w_getf g_P_20 d_P_freeFrame_4 hP.1 rfl (by decide) ?_
    refine w_alen d_P_freeFrame_7 hP.2.1 (by decide) ?_
    refine w_icmp_ge 43 d_P_freeFrame_8 (by decide) (fun _ => ?_) (fun hn => absurd ((nI_leI (by omega) (by omega)).mpr (by omega)) hn)
    exact out _ c P hP hh
  | succ d ih =>
    intro k c P hk hP hh
    have hP0 := hP
    obtain ⟨h1, h2, h3⟩ := hP
    refine w_iload_n d_P_freeFrame_2 rfl ?_
    refine w_aload_n d_P_freeFrame_3 rfl ?_
    refine w_getf g_P_20 d_P_freeFrame_4 h1 rfl (by decide) ?_
    refine w_alen d_P_freeFrame_7 h2 (by decide) ?_
    refine w_icmp_ge 43 d_P_freeFrame_8 (by decide) (fun hn => absurd hn (fun z => absurd ((nI_leI (by omega) (by omega)).mp z) (by omega))) (fun _ => ?_)
    refine w_aload_n d_P_freeFrame_11 rfl ?_
    refine w_getf g_P_24 d_P_freeFrame_12 h1 rfl (by decide) ?_
    refine w_aload_n d_P_freeFrame_15 rfl ?_
    refine w_getf g_P_43 d_P_freeFrame_16 h1 rfl (by decide) ?_
    refine w_zald d_P_freeFrame_19 h3 rfl hh (by omega) (by decide) ?_
    refine w_if_eq 43 d_P_freeFrame_20 (by decide) (fun hz => ?_) (fun hz => ?_)
    · -- taken
      have e : ffGo nF (d + 1) P.2.1 P.2.2.1 = (P.2.1, P.2.2.1) := by rw [ffGo, if_pos hz]
      rw [e]
      exact out _ c P hP0 hh
    · -- not taken
      have e : ffGo nF (d + 1) P.2.1 P.2.2.1 = ffGo nF d (upd P.2.1 P.2.2.1 0) (nxH nF P.2.2.1) := by rw [ffGo, if_neg hz]
      rw [e]
      refine w_aload_n d_P_freeFrame_23 rfl ?_
      refine w_getf g_P_24 d_P_freeFrame_24 h1 rfl (by decide) ?_
      refine w_aload_n d_P_freeFrame_27 rfl ?_
      refine w_getf g_P_43 d_P_freeFrame_28 h1 rfl (by decide) ?_
      refine w_iconst 0 d_P_freeFrame_31 (by decide) ?_
      refine w_zast d_P_freeFrame_32 h3 rfl hh (by omega) (by decide) (by decide) ?_
      have hP1 : pol X a (va_up c 15 (aZ X nF (upd P.2.1 P.2.2.1 0))) nF (P.1, upd P.2.1 P.2.2.1 0, P.2.2.1, P.2.2.2.1, P.2.2.2.2) := ⟨h1, h2, rfl⟩
      refine w_aload_n d_P_freeFrame_33 rfl ?_
      refine w_vV [] c_P_46 d_P_freeFrame_34 rfl hP1.1 (by decide) (p_moveHand hP1 hn hh) (fun w hw => ?_) rfl rfl (gq rfl) (gq rfl) (gq rfl) (gq rfl) (gq rfl) (gq rfl)
      obtain ⟨h4, h5⟩ := hw
      first | refine w_iinc _ d_P_freeFrame_37 rfl (nIinc _) (by decide) ?_ | refine w_iinc _ d_P_freeFrame_37 rfl rfl (by decide) ?_
      refine w_goto 2 d_P_freeFrame_40 (by decide) ?_
      refine w_post (fun r w' hw' => ?_) (ih (k + 1) w _ (by omega) h4 (nxH_lt h0))
      obtain ⟨x, e1, e2, e3, e4⟩ := hw'
      exact ⟨x, e1, e2, e3, same_trans (same_trans (same_up (by simp)) h5) e4⟩
theorem p_freeFrame (hP : pol X a c nF P) (hn : nF ≤ 16) (hh : P.2.2.1 < nF) : GW X a m_P_freeFrame 1 20 0 0 0 (lv_args 0 [.ref (a 13)]) [] c (pI (fun x w => x = nI (ffGo nF nF P.2.1 P.2.2.1).2 ∧ pol X a w nF (P.1, (ffGo nF nF P.2.1 P.2.2.1).1, nxH nF (ffGo nF nF P.2.1 P.2.2.1).2, P.2.2.2.1, P.2.2.2.2) ∧ same c w [13, 14, 15])) := by
  refine w_iconst 0 d_P_freeFrame_0 (by decide) ?_
  refine w_istore_n d_P_freeFrame_1 (by decide) ?_
  exact p_ffGo hn (by omega) nF 0 c P (by omega) hP hh
theorem p_touch {o : Option Nat} {l pl : Nat} (hP : pol X a c nF P) (hn : nF ≤ 16) (hh : P.2.2.1 < nF) : GW X a m_P_touch 2 41 0 0 0 (lv_args 0 [.ref (a 13), .int (oI o), .int (nI l), .int (nI pl)]) [] c (pV (fun w => pol X a w nF (tchP nF (nI (pgN o l pl)) P) ∧ same c w [13, 14, 15])) := by
  obtain ⟨h1, h2, h3⟩ := hP
  have hP1 : pol X a (va_up c 13 (oP a P.2.2.1 (P.2.2.2.1 + 1) P.2.2.2.2)) nF (P.1, P.2.1, P.2.2.1, P.2.2.2.1 + 1, P.2.2.2.2) := ⟨rfl, h2, h3⟩
  have hs1 : same c (va_up c 13 (oP a P.2.2.1 (P.2.2.2.1 + 1) P.2.2.2.2)) [13, 14, 15] := same_up (by simp)
  refine w_iload_n d_P_touch_0 rfl ?_
  refine w_iconst 1 d_P_touch_1 (by decide) ?_
  refine w_iadd d_P_touch_2 ?_
  refine w_iconst 4 d_P_touch_3 (by decide) ?_
  refine w_imul d_P_touch_4 ?_
  refine w_iload_n d_P_touch_5 rfl ?_
  refine w_iadd d_P_touch_6 ?_
  refine w_bipush 16 d_P_touch_7 (by decide) ?_
  refine w_imul d_P_touch_9 ?_
  refine w_iload_n d_P_touch_10 rfl ?_
  refine w_iadd d_P_touch_11 ?_
  rw [pgN_eq]
  refine w_istore d_P_touch_12 (by decide) ?_
  refine w_aload_n d_P_touch_14 rfl ?_
  refine w_dup d_P_touch_15 rfl ?_
  refine w_getf g_P_28 d_P_touch_16 h1 rfl (by decide) ?_
  refine w_iconst 1 d_P_touch_19 (by decide) ?_
  refine w_iadd d_P_touch_20 ?_
  rw [nI_1]
  refine w_putf p_P_28 d_P_touch_21 h1 rfl rfl (gqL rfl) (by decide) ?_
  refine w_aload_n d_P_touch_24 rfl ?_
  refine w_iload d_P_touch_25 rfl ?_
  refine w_vI [_] c_P_35 d_P_touch_27 rfl rfl (by decide) (p_frameOf (p := nI (pgN o l pl)) hP1 hn) (fun x w hw => ?_) rfl rfl (gq rfl) (gq rfl) (gq rfl) (gq rfl) (gq rfl) (gq rfl)
  obtain ⟨rfl, rfl⟩ := hw
  rcases hf : fdGo P.1 (nI (pgN o l pl)) nF 0 with _ | f
  · -- case
    refine w_istore d_P_touch_30 (by decide) ?_
    refine w_iload d_P_touch_32 rfl ?_
    refine w_iconst (-1) d_P_touch_34 (by decide) ?_
    refine w_icmp_ne 63 d_P_touch_35 (by decide) (fun hn => absurd (rfl) hn) (fun _ => ?_)
    refine w_aload_n d_P_touch_38 rfl ?_
    refine w_dup d_P_touch_39 rfl ?_
    refine w_getf g_P_32 d_P_touch_40 rfl rfl (by decide) ?_
    refine w_iconst 1 d_P_touch_43 (by decide) ?_
    refine w_iadd d_P_touch_44 ?_
    rw [nI_1]
    refine w_putf p_P_32 d_P_touch_45 rfl rfl rfl (gqL rfl) (by decide) ?_
    have hP2 : pol X a (va_up (va_up c 13 (oP a P.2.2.1 (P.2.2.2.1 + 1) P.2.2.2.2)) 13 (oP a P.2.2.1 (P.2.2.2.1 + 1) (P.2.2.2.2 + 1))) nF (P.1, P.2.1, P.2.2.1, P.2.2.2.1 + 1, P.2.2.2.2 + 1) := ⟨rfl, h2, h3⟩
    refine w_aload_n d_P_touch_48 rfl ?_
    refine w_vI [] c_P_39 d_P_touch_49 rfl rfl (by decide) (p_freeFrame hP2 hn hh) (fun x w hw => ?_) rfl rfl (gq rfl) (gq rfl) (gq rfl) (gq rfl) (gq rfl) (gq rfl)
    obtain ⟨rfl, ⟨g1, g2, g3⟩, g4⟩ := hw
    have hlt := ffGo_lt (nF := nF) (k := nF) (mr := P.2.1) (hd := P.2.2.1) (by omega) hh
    refine w_istore d_P_touch_52 (by decide) ?_
    refine w_aload_n d_P_touch_54 rfl ?_
    refine w_getf g_P_20 d_P_touch_55 g1 rfl (by decide) ?_
    refine w_iload d_P_touch_58 rfl ?_
    refine w_iload d_P_touch_60 rfl ?_
    refine w_iast d_P_touch_62 g2 rfl hlt (by omega) (by decide) ?_
    refine w_aload_n d_P_touch_63 rfl ?_
    refine w_getf g_P_24 d_P_touch_64 g1 rfl (by decide) ?_
    refine w_iload d_P_touch_67 rfl ?_
    refine w_iconst 1 d_P_touch_69 (by decide) ?_
    refine w_zast d_P_touch_70 g3 rfl hlt (by omega) (by decide) (by decide) ?_
    exact w_vret d_P_touch_71 rfl (⟨rfl, by unfold tchP; rw [hf]; exact ⟨g1, rfl, rfl⟩, same_trans (same_trans (same_trans (same_trans hs1 (same_up (by simp))) g4) (same_up (by simp))) (same_up (by simp))⟩)
  · -- case
    have hlt := fdGo_lt hf
    refine w_istore d_P_touch_30 (by decide) ?_
    refine w_iload d_P_touch_32 rfl ?_
    refine w_iconst (-1) d_P_touch_34 (by decide) ?_
    refine w_icmp_ne 63 d_P_touch_35 (by decide) (fun _ => ?_) (fun hn => absurd hn ((nI_neg (by omega))))
    refine w_aload_n d_P_touch_63 rfl ?_
    refine w_getf g_P_24 d_P_touch_64 rfl rfl (by decide) ?_
    refine w_iload d_P_touch_67 rfl ?_
    refine w_iconst 1 d_P_touch_69 (by decide) ?_
    refine w_zast d_P_touch_70 h3 rfl (by omega) (by omega) (by decide) (by decide) ?_
    exact w_vret d_P_touch_71 rfl (⟨rfl, by unfold tchP; rw [hf]; exact ⟨rfl, h2, rfl⟩, same_trans hs1 (same_up (by simp))⟩)
end PL
