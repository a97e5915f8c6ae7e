/-! Ledger -/
abbrev oD (a : Nat → Nat) (cnt ch : Nat) : va_E := .inr (6, [.ref (a 17), .int (nI cnt), .int (nI ch)])
abbrev aQ (X : gX) (f : Nat → Option Nat) : va_E := .inl (X.cQ, 8, .inr (.inr (.inr (.inr f))))
abbrev oH (a : Nat → Nat) (j w : Nat) : va_E := .inr (10, [.ref (a (19 + 7 * j)), .ref (a (23 + 7 * j)), .int (nI w)])
-- what each of the eight shapes holds: kinds, froms, tos, weight
abbrev SH : Type := Nat → ((Nat → Int32) × (Nat → Int32) × (Nat → Int32) × Nat)
def shp (X : gX) (a : Nat → Nat) (c : Nat → va_E) (j : Nat) (D : (Nat → Int32) × (Nat → Int32) × (Nat → Int32) × Nat) : Prop :=
  c (18 + 7 * j) = oH a j D.2.2.2 ∧ cnd X a c (19 + 7 * j) D.1 D.2.1 D.2.2.1 ∧ ∃ hp g, c (23 + 7 * j) = oW a (23 + 7 * j) hp ∧ c (23 + 7 * j + 1) = aI X 9 g
def perm (pm : Nat → Nat) : Prop := (∀ k, k < 8 → pm k < 8) ∧ ∀ i j, i < 8 → j < 8 → pm i = pm j → i = j
def led (X : gX) (a : Nat → Nat) (c : Nat → va_E) (cnt ch : Nat) (pm : Nat → Nat) (D : SH) : Prop :=
  c 16 = oD a cnt ch ∧ (∃ sf, c 17 = aQ X sf ∧ ∀ k, k < 8 → sf k = some (a (18 + 7 * pm k))) ∧ perm pm ∧ ∀ j, j < 8 → shp X a c j (D j)
def sameR (c w : Nat → va_E) (lo hi : Nat) : Prop := ∀ p, (p < lo ∨ hi < p) → w p = c p
theorem sameR_trans {c d w : Nat → va_E} {lo hi : Nat} (h1 : sameR c d lo hi) (h2 : sameR d w lo hi) : sameR c w lo hi := fun p hp => (h2 p hp).trans (h1 p hp)
theorem sameR_up {c : Nat → va_E} {q lo hi : Nat} {e : va_E} (h1 : lo ≤ q) (h2 : q ≤ hi) : sameR c (va_up c q e) lo hi := fun p hp => va_n (by omega) rfl
theorem sameR_of {c w : Nat → va_E} {l : List Nat} {lo hi : Nat} (h : same c w l) (hl : ∀ x ∈ l, lo ≤ x ∧ x ≤ hi) : sameR c w lo hi := fun p hp => h p (fun z => by have := hl p z; omega)
theorem sameR_rf {c : Nat → va_E} {lo hi : Nat} : sameR c c lo hi := fun _ _ => rfl
theorem shp.keep {X : gX} {a : Nat → Nat} {c w : Nat → va_E} {j : Nat} {D : (Nat → Int32) × (Nat → Int32) × (Nat → Int32) × Nat} (h : shp X a c j D) (hs : ∀ p, 18 + 7 * j ≤ p → p ≤ 24 + 7 * j → w p = c p) : shp X a w j D := by
  obtain ⟨h1, ⟨h2, h3, h4, h5⟩, hp, g, h6, h7⟩ := h
  exact ⟨(hs _ (by omega) (by omega)).trans h1, ⟨(hs _ (by omega) (by omega)).trans h2, (hs _ (by omega) (by omega)).trans h3, (hs _ (by omega) (by omega)).trans h4, (hs _ (by omega) (by omega)).trans h5⟩, hp, g, (hs _ (by omega) (by omega)).trans h6, (hs _ (by omega) (by omega)).trans h7⟩
theorem led.keep {X : gX} {a : Nat → Nat} {c w : Nat → va_E} {cnt ch : Nat} {pm : Nat → Nat} {D : SH} (h : led X a c cnt ch pm D) (hs : ∀ p, 16 ≤ p → p ≤ 73 → w p = c p) : led X a w cnt ch pm D := by
  obtain ⟨h1, ⟨sf, h2, h3⟩, h4, h5⟩ := h
  exact ⟨(hs _ (by omega) (by omega)).trans h1, ⟨sf, (hs _ (by omega) (by omega)).trans h2, h3⟩, h4, fun j hj => (h5 j hj).keep (fun p p1 p2 => hs p (by omega) (by omega))⟩
section LG
variable {X : gX} {a : Nat → Nat} {c : Nat → va_E} {cnt ch : Nat} {pm : Nat → Nat} {D : SH} {K F T : Nat → Int32}
theorem d_noteChange (hL : led X a c cnt ch pm D) : GW X a m_D_noteChange 0 0 0 0 0 (lv_args 0 [.ref (a 16)]) [] c (pV (fun w => led X a w cnt (ch + 4) pm D ∧ same c w [16])) := by
  obtain ⟨h1, h2, h3, h4⟩ := hL
  have e : nI ch + 4 = nI (ch + 4) := by rw [show (4 : Int32) = nI 4 from rfl, nI_add]
  refine w_aload_n d_D_noteChange_0 rfl ?_
  refine w_dup d_D_noteChange_1 rfl ?_
  refine w_getf g_D_41 d_D_noteChange_2 h1 rfl (by decide) ?_
  refine w_iconst 4 d_D_noteChange_5 (by decide) ?_
  refine w_iadd d_D_noteChange_6 ?_
  rw [e]
  refine w_putf p_D_41 d_D_noteChange_7 h1 rfl rfl (gqL rfl) (by decide) ?_
  exact w_vret d_D_noteChange_10 rfl (⟨rfl, ⟨rfl, h2, h3, fun j hj => (h4 j hj).keep (fun p p1 p2 => va_n (by omega) rfl)⟩, same_up (by simp)⟩)
theorem d_plGo {code : Int32} (hL : led X a c cnt ch pm D) (hc : cnt ≤ 8) : ∀ (d k : Nat), k + d = cnt → GW X a m_D_placeOf 1 22 0 0 2 [(0, .ref (a 16)), (1, .int code), (2, .int (nI k))] [] c (pI (eI (nI ((fdGo (fun i => kc (D (pm i)).1) code d k).getD cnt)) c)) := by
  obtain ⟨h1, ⟨sf, h2, hsf⟩, h3, h4⟩ := hL
  intro d
  induction d with
  | zero =>
    intro k hk
    refine w_iload_n d_D_placeOf_2 rfl ?_
    refine w_aload_n d_D_placeOf_3 rfl ?_
    refine w_getf g_D_26 d_D_placeOf_4 h1 rfl (by decide) ?_
    refine w_icmp_ge 34 d_D_placeOf_7 (by decide) (fun _ => ?_) (fun hn => absurd ((nI_leI (by omega) (by omega)).mpr (by omega)) hn)
    refine w_aload_n d_D_placeOf_34 rfl ?_
    refine w_getf g_D_26 d_D_placeOf_35 h1 rfl (by decide) ?_
    exact w_iret d_D_placeOf_38 rfl (⟨_, rfl, rfl, rfl⟩)
  | succ d ih =>
    intro k hk
    have key := ih (k + 1) (by omega)
    have hp := h3.1 k (by omega)
    have hS := h4 (pm k) hp
    refine w_iload_n d_D_placeOf_2 rfl ?_
    refine w_aload_n d_D_placeOf_3 rfl ?_
    refine w_getf g_D_26 d_D_placeOf_4 h1 rfl (by decide) ?_
    refine w_icmp_ge 34 d_D_placeOf_7 (by decide) (fun hn => absurd hn (fun z => absurd ((nI_leI (by omega) (by omega)).mp z) (by omega))) (fun _ => ?_)
    refine w_aload_n d_D_placeOf_10 rfl ?_
    refine w_getf g_D_11 d_D_placeOf_11 h1 rfl (by decide) ?_
    refine w_iload_n d_D_placeOf_14 rfl ?_
    refine w_aald d_D_placeOf_15 h2 rfl (by omega) (by decide) (by decide) ?_
    rw [hsf k (by omega)]
    refine w_getf g_D_33 d_D_placeOf_16 hS.1 rfl (by omega) ?_
    refine w_vI [] c_D_16 d_D_placeOf_19 rfl hS.2.1.1 (by omega) (c_kindsCode hS.2.1 (by omega)) (fun x w hw => ?_) rfl rfl (gq rfl) (gq rfl) (gq rfl) (gq rfl) (gq rfl) (gq rfl)
    obtain ⟨rfl, rfl⟩ := hw
    refine w_iload_n d_D_placeOf_22 rfl ?_
    refine w_icmp_ne 28 d_D_placeOf_23 (by decide) (fun hz => ?_) (fun hz => ?_)
    · -- taken
      have e : fdGo (fun i => kc (D (pm i)).1) code (d + 1) k = fdGo (fun i => kc (D (pm i)).1) code d (k + 1) := by rw [fdGo, if_neg hz]
      rw [e]
      first | refine w_iinc _ d_D_placeOf_28 rfl (nIinc _) (by decide) ?_ | refine w_iinc _ d_D_placeOf_28 rfl rfl (by decide) ?_
      refine w_goto 2 d_D_placeOf_31 (by decide) ?_
      exact key
    · -- not taken
      have e : fdGo (fun i => kc (D (pm i)).1) code (d + 1) k = some k := by rw [fdGo, if_pos hz]
      refine w_iload_n d_D_placeOf_26 rfl ?_
      exact w_iret d_D_placeOf_27 rfl (⟨_, rfl, by rw [e]; rfl, rfl⟩)
theorem d_placeOf {code : Int32} (hL : led X a c cnt ch pm D) (hc : cnt ≤ 8) : GW X a m_D_placeOf 1 22 0 0 0 (lv_args 0 [.ref (a 16), .int code]) [] c (pI (eI (nI ((fdGo (fun i => kc (D (pm i)).1) code cnt 0).getD cnt)) c)) := by
  refine w_iconst 0 d_D_placeOf_0 (by decide) ?_
  refine w_istore_n d_D_placeOf_1 (by decide) ?_
  exact d_plGo hL hc cnt 0 (by omega)
-- the place of a shape of these kinds, among cnt; cnt if there is none
def plc (f : Nat → Int32) (code : Int32) (cnt : Nat) : Nat := (fdGo f code cnt 0).getD cnt
theorem plc_le {f : Nat → Int32} {code : Int32} {cnt : Nat} : plc f code cnt ≤ cnt := by
  unfold plc
  cases h : fdGo f code cnt 0 with
  | none => exact Nat.le_refl _
  | some i => have := fdGo_lt h; simp; omega
theorem d_n3 {w : Nat → va_E} {k j : Nat} {K' F' T' : Nat → Int32} {hp0 : Int32} {g0 : Nat → Int32} {W : Nat} (hj : j < 8) (s3 : c (23 + 7 * pm k) = oW a (23 + 7 * pm k) hp0) (s4 : c (23 + 7 * pm k + 1) = aI X 9 g0) (h4 : ∀ j, j < 8 → shp X a c j (D j)) (hC' : cnd X a w (19 + 7 * pm k) K' F' T') (hw : w (18 + 7 * pm k) = oH a (pm k) W)
    (key : ∀ p, p ≠ 18 + 7 * pm k → p ≠ 19 + 7 * pm k + 1 → p ≠ 19 + 7 * pm k + 2 → p ≠ 19 + 7 * pm k + 3 → w p = c p) : shp X a w j (va_up D (pm k) (K', F', T', W) j) := by
  by_cases e : j = pm k
  · subst e
    rw [va_s]
    exact ⟨hw, hC', hp0, g0, (key _ (by omega) (by omega) (by omega) (by omega)).trans s3, (key _ (by omega) (by omega) (by omega) (by omega)).trans s4⟩
  · rw [va_n e rfl]
    exact (h4 j hj).keep (fun p p1 p2 => key p (by omega) (by omega) (by omega) (by omega))
-- the shape at place k is noted: its weight grows, the conditions are kept
theorem d_note2 {k : Nat} (hL : led X a c cnt ch pm D) (hk : k < 8) (hC : cnd X a c 4 K F T) :
    GW X a m_D_noteQuery 2 46 0 0 34 [(0, .ref (a 16)), (1, .ref (a 4)), (2, .int (nI k))] [] c (pV (fun w => (∃ K' F' T', (∀ i, i < 3 → K' i = K i ∧ F' i = F i ∧ T' i = toK K F T i) ∧ led X a w cnt ch pm (va_up D (pm k) (K', F', T', (D (pm k)).2.2.2 + 16))) ∧ sameR c w 18 73)) := by
  have hL0 := hL
  obtain ⟨h1, ⟨sf, h2, hsf⟩, h3, h4⟩ := hL
  have hp := h3.1 k hk
  obtain ⟨s1, s2, hp0, g0, s3, s4⟩ := h4 (pm k) hp
  have e : nI (D (pm k)).2.2.2 + 16 = nI ((D (pm k)).2.2.2 + 16) := by rw [show (16 : Int32) = nI 16 from rfl, nI_add]
  refine w_aload_n d_D_noteQuery_34 rfl ?_
  refine w_getf g_D_11 d_D_noteQuery_35 h1 rfl (by decide) ?_
  refine w_iload_n d_D_noteQuery_38 rfl ?_
  refine w_aald d_D_noteQuery_39 h2 rfl hk (by decide) (by decide) ?_
  rw [hsf k hk]
  refine w_dup d_D_noteQuery_40 rfl ?_
  refine w_getf g_D_30 d_D_noteQuery_41 s1 rfl (by omega) ?_
  refine w_bipush 16 d_D_noteQuery_44 (by decide) ?_
  refine w_iadd d_D_noteQuery_46 ?_
  rw [e]
  refine w_putf p_D_30 d_D_noteQuery_47 s1 rfl rfl (gqL rfl) (by omega) ?_
  have hs1 : same c (va_up c (18 + 7 * pm k) (oH a (pm k) ((D (pm k)).2.2.2 + 16))) [18 + 7 * pm k] := same_up (by simp)
  have hC1 : cnd X a (va_up c (18 + 7 * pm k) (oH a (pm k) ((D (pm k)).2.2.2 + 16))) 4 K F T := hC.same hs1 (by simp; omega)
  have hC2 : cnd X a (va_up c (18 + 7 * pm k) (oH a (pm k) ((D (pm k)).2.2.2 + 16))) (19 + 7 * pm k) (D (pm k)).1 (D (pm k)).2.1 (D (pm k)).2.2.1 := s2.same hs1 (by simp; omega)
  have h11 : va_up c (18 + 7 * pm k) (oH a (pm k) ((D (pm k)).2.2.2 + 16)) 16 = oD a cnt ch := va_n (by omega) h1
  have h21 : va_up c (18 + 7 * pm k) (oH a (pm k) ((D (pm k)).2.2.2 + 16)) 17 = aQ X sf := va_n (by omega) h2
  refine w_aload_n d_D_noteQuery_50 rfl ?_
  refine w_getf g_D_11 d_D_noteQuery_51 h11 rfl (by decide) ?_
  refine w_iload_n d_D_noteQuery_54 rfl ?_
  refine w_aald d_D_noteQuery_55 h21 rfl hk (by decide) (by decide) ?_
  rw [hsf k hk]
  refine w_getf g_D_33 d_D_noteQuery_56 va_s rfl (by omega) ?_
  refine w_aload_n d_D_noteQuery_59 rfl ?_
  refine w_vV [_] c_D_37 d_D_noteQuery_60 rfl hC2.1 (by omega) (c_copy (by omega) (by decide) (by omega) hC2 hC1) (fun w hw => ?_) rfl rfl (gq rfl) (gq rfl) (gq rfl) (gq rfl) (gq rfl) (gq rfl)
  obtain ⟨⟨K', F', T', hC', hK⟩, hs2⟩ := hw
  have key : ∀ p, p ≠ 18 + 7 * pm k → p ≠ 19 + 7 * pm k + 1 → p ≠ 19 + 7 * pm k + 2 → p ≠ 19 + 7 * pm k + 3 → w p = c p := fun p q1 q2 q3 q4 => (hs2 p (by simp; omega)).trans (hs1 p (by simpa using q1))
  exact w_vret d_D_noteQuery_63 rfl (⟨rfl, ⟨K', F', T', hK, (key 16 (by omega) (by omega) (by omega) (by omega)).trans h1, ⟨sf, (key 17 (by omega) (by omega) (by omega) (by omega)).trans h2, hsf⟩, h3, fun j hj => d_n3 hj s3 s4 h4 hC' ((hs2 _ (by simp; omega)).trans va_s) key⟩, fun p hpp => key p (by omega) (by omega) (by omega) (by omega)⟩)
theorem d_noteQuery (hL : led X a c cnt ch pm D) (hc : cnt ≤ 8) (hC : cnd X a c 4 K F T) :
    GW X a m_D_noteQuery 2 46 0 0 0 (lv_args 0 [.ref (a 16), .ref (a 4)]) [] c (pV (fun w => (plc (fun i => kc (D (pm i)).1) (kc K) cnt = 8 → c = w) ∧ (¬ plc (fun i => kc (D (pm i)).1) (kc K) cnt = 8 → (∃ K' F' T', (∀ i, i < 3 → K' i = K i ∧ F' i = F i ∧ T' i = toK K F T i) ∧ led X a w (if plc (fun i => kc (D (pm i)).1) (kc K) cnt = cnt then cnt + 1 else cnt) ch pm (va_up D (pm (plc (fun i => kc (D (pm i)).1) (kc K) cnt)) (K', F', T', (D (pm (plc (fun i => kc (D (pm i)).1) (kc K) cnt))).2.2.2 + 16))) ∧ sameR c w 16 73))) := by
  have hle := plc_le (f := fun i => kc (D (pm i)).1) (code := kc K) (cnt := cnt)
  have hpl : (fdGo (fun i => kc (D (pm i)).1) (kc K) cnt 0).getD cnt = plc (fun i => kc (D (pm i)).1) (kc K) cnt := rfl
  generalize hk : plc (fun i => kc (D (pm i)).1) (kc K) cnt = k at hle hpl ⊢
  refine w_aload_n d_D_noteQuery_0 rfl ?_
  refine w_aload_n d_D_noteQuery_1 rfl ?_
  refine w_vI [] c_D_16 d_D_noteQuery_2 rfl hC.1 (by decide) (c_kindsCode hC (by decide)) (fun x w hw => ?_) rfl rfl (gq rfl) (gq rfl) (gq rfl) (gq rfl) (gq rfl) (gq rfl)
  obtain ⟨rfl, rfl⟩ := hw
  refine w_vI [_] c_D_22 d_D_noteQuery_5 rfl hL.1 (by decide) (d_placeOf hL hc) (fun x w hw => ?_) rfl rfl (gq rfl) (gq rfl) (gq rfl) (gq rfl) (gq rfl) (gq rfl)
  obtain ⟨rfl, rfl⟩ := hw
  rw [hpl]
  refine w_istore_n d_D_noteQuery_8 (by decide) ?_
  refine w_iload_n d_D_noteQuery_9 rfl ?_
  refine w_bipush 8 d_D_noteQuery_10 (by decide) ?_
  refine w_icmp_ne 16 d_D_noteQuery_12 (by decide) (fun h8 => ?_) (fun h8 => ?_)
  · -- taken
    have h8' : ¬ k = 8 := fun z => h8 (by rw [z]; rfl)
    refine w_iload_n d_D_noteQuery_16 rfl ?_
    refine w_aload_n d_D_noteQuery_17 rfl ?_
    refine w_getf g_D_26 d_D_noteQuery_18 hL.1 rfl (by decide) ?_
    refine w_icmp_ne 34 d_D_noteQuery_21 (by decide) (fun hc1 => ?_) (fun hc1 => ?_)
    · -- taken
      have hne : ¬ k = cnt := fun z => hc1 (by rw [z])
      refine w_post (fun r w hw => ?_) (d_note2 (k := k) hL (by omega) hC)
      obtain ⟨e0, ⟨K', F', T', e1, e2⟩, e3⟩ := hw
      exact ⟨e0, fun z => absurd z h8', fun _ => ⟨⟨K', F', T', e1, by rw [if_neg hne]; exact e2⟩, fun p hp => e3 p (by omega)⟩⟩
    · -- not taken
      have he : k = cnt := (nI_eq (by omega) (by omega)).mp hc1
      refine w_aload_n d_D_noteQuery_24 rfl ?_
      refine w_dup d_D_noteQuery_25 rfl ?_
      refine w_getf g_D_26 d_D_noteQuery_26 hL.1 rfl (by decide) ?_
      refine w_iconst 1 d_D_noteQuery_29 (by decide) ?_
      refine w_iadd d_D_noteQuery_30 ?_
      rw [nI_1]
      refine w_putf p_D_26 d_D_noteQuery_31 hL.1 rfl rfl (gqL rfl) (by decide) ?_
      have hL1 : led X a (va_up c 16 (oD a (cnt + 1) ch)) (cnt + 1) ch pm D := ⟨rfl, hL.2.1, hL.2.2.1, fun j hj => (hL.2.2.2 j hj).keep (fun p p1 p2 => va_n (by omega) rfl)⟩
      have hC1 : cnd X a (va_up c 16 (oD a (cnt + 1) ch)) 4 K F T := ⟨hC.1, hC.2.1, hC.2.2.1, hC.2.2.2⟩
      refine w_post (fun r w hw => ?_) (d_note2 (k := k) hL1 (by omega) hC1)
      obtain ⟨e0, ⟨K', F', T', e1, e2⟩, e3⟩ := hw
      exact ⟨e0, fun z => absurd z h8', fun _ => ⟨⟨K', F', T', e1, by rw [if_pos he]; exact e2⟩, fun p hp => (e3 p (by omega)).trans (va_n (by omega) rfl)⟩⟩
  · -- not taken
    have h8' : k = 8 := (nI_eq (by omega) (by decide)).mp h8
    exact w_vret d_D_noteQuery_15 rfl (⟨rfl, fun _ => rfl, fun z => absurd h8' z⟩)
theorem d_three {n : Nat} (hn : n < 100000) : GW X a m_D_threeQuarters 0 0 0 0 0 (lv_args 0 [.int (nI n)]) [] c (pI (eI (nI (n * 3 / 4)) c)) := by
  have e : nI n * 3 / 4 = nI (n * 3 / 4) := by rw [show (3 : Int32) = nI 3 from rfl, pk_mul, show (4 : Int32) = nI 4 from rfl, pk_div (by omega) (by decide) (by decide)]
  refine w_iload_n d_D_threeQuarters_0 rfl ?_
  refine w_iconst 3 d_D_threeQuarters_1 (by decide) ?_
  refine w_imul d_D_threeQuarters_2 ?_
  refine w_iconst 4 d_D_threeQuarters_3 (by decide) ?_
  refine w_idiv d_D_threeQuarters_4 (by decide) ?_
  exact w_iret d_D_threeQuarters_5 rfl (⟨_, rfl, e.symm, rfl⟩)
theorem perm_swap {pm : Nat → Nat} {k l : Nat} (h : perm pm) (hk : k < 8) (hl : l < 8) : perm (va_up (va_up pm k (pm l)) l (pm k)) := by
  obtain ⟨h1, h2⟩ := h
  refine ⟨fun i hi => ?_, fun i j hi hj e => ?_⟩
  · by_cases e1 : i = l
    · subst e1; rw [va_s]; exact h1 k hk
    · rw [va_n e1 rfl]
      by_cases e2 : i = k
      · subst e2; rw [va_s]; exact h1 l hl
      · rw [va_n e2 rfl]; exact h1 i hi
  · have val : ∀ i, va_up (va_up pm k (pm l)) l (pm k) i = pm (if i = l then k else if i = k then l else i) := by
      intro i
      by_cases e1 : i = l
      · subst e1; rw [va_s, if_pos rfl]
      · rw [va_n e1 rfl, if_neg e1]
        by_cases e2 : i = k
        · subst e2; rw [va_s, if_pos rfl]
        · rw [va_n e2 rfl, if_neg e2]
    rw [val, val] at e
    have := h2 _ _ (by split <;> (try split) <;> omega) (by split <;> (try split) <;> omega) e
    split at this <;> split at this <;> (try split at this) <;> (try split at this) <;> omega
-- the shapes that stay
def svL (w0 : Nat → Nat) (k : Nat) : List Nat := (List.range k).filter (fun i => decide (0 < w0 i * 3 / 4))
theorem svL_s {w0 : Nat → Nat} {k : Nat} : svL w0 (k + 1) = if 0 < w0 k * 3 / 4 then svL w0 k ++ [k] else svL w0 k := by
  unfold svL
  rw [List.range_succ, List.filter_append]
  by_cases e : 0 < w0 k * 3 / 4
  · rw [if_pos e]; simp; omega
  · rw [if_neg e]; simp; omega
theorem svL_len (w0 : Nat → Nat) (k : Nat) : (svL w0 k).length ≤ k := by
  have := List.length_filter_le (fun i => decide (0 < w0 i * 3 / 4)) (List.range k)
  rw [List.length_range] at this
  exact this
def fadW (D : (Nat → Int32) × (Nat → Int32) × (Nat → Int32) × Nat) : (Nat → Int32) × (Nat → Int32) × (Nat → Int32) × Nat := (D.1, D.2.1, D.2.2.1, D.2.2.2 * 3 / 4)
-- after k shapes have been looked at
def fadI (X : gX) (a : Nat → Nat) (c : Nat → va_E) (cnt ch : Nat) (pm0 : Nat → Nat) (D0 : SH) (k : Nat) (pm : Nat → Nat) (D : SH) : Prop :=
  led X a c cnt ch pm D ∧ (∀ i, i < (svL (fun i => (D0 (pm0 i)).2.2.2) k).length → pm i = pm0 ((svL (fun i => (D0 (pm0 i)).2.2.2) k).getD i 0)) ∧ (∀ i, (svL (fun i => (D0 (pm0 i)).2.2.2) k).length ≤ i → i < k → (D (pm i)).2.2.2 = 0) ∧
  (∀ i, k ≤ i → i < 8 → pm i = pm0 i ∧ D (pm0 i) = D0 (pm0 i)) ∧ ∀ i, i < k → D (pm0 i) = fadW (D0 (pm0 i))
theorem svL_mem {w0 : Nat → Nat} {k x : Nat} (h : x ∈ svL w0 k) : x < k ∧ 0 < w0 x * 3 / 4 := by
  obtain ⟨h1, h2⟩ := List.mem_filter.mp h
  exact ⟨List.mem_range.mp h1, by simpa using h2⟩
theorem d_fdLoop {pm0 : Nat → Nat} {D0 : SH} (hp0 : perm pm0) (hc : cnt ≤ 8) (hw : ∀ j, j < 8 → (D0 j).2.2.2 < 10000) : ∀ (d k : Nat) (c : Nat → va_E) (pm : Nat → Nat) (D : SH), k + d = cnt → fadI X a c cnt ch pm0 D0 k pm D →
    GW X a m_D_fade 1 20 0 0 15 [(0, .ref (a 16)), (1, .int (nI (svL (fun i => (D0 (pm0 i)).2.2.2) k).length)), (2, .int (nI k))] [] c (pV (fun w => (∃ pm' D', fadI X a (va_up w 16 (oD a cnt ch)) cnt ch pm0 D0 cnt pm' D') ∧ w 16 = oD a (svL (fun i => (D0 (pm0 i)).2.2.2) cnt).length ch ∧ sameR c w 16 73)) := by
  intro d
  induction d with
  | zero =>
    intro k c pm D hk hI
    have e : k = cnt := by omega
    subst e
    have hL := hI.1
    refine w_iload_n d_D_fade_15 rfl ?_
    refine w_aload_n d_D_fade_16 rfl ?_
    refine w_getf g_D_26 d_D_fade_17 hL.1 rfl (by decide) ?_
    refine w_icmp_ge 76 d_D_fade_20 (by decide) (fun _ => ?_) (fun hn => absurd ((nI_leI (by omega) (by omega)).mpr (by omega)) hn)
    refine w_aload_n d_D_fade_76 rfl ?_
    refine w_iload_n d_D_fade_77 rfl ?_
    refine w_putf p_D_26 d_D_fade_78 hL.1 rfl rfl (gqL rfl) (by decide) ?_
    exact w_vret d_D_fade_81 rfl (⟨rfl, ⟨pm, D, by rw [bx_uu, show va_up c 16 (oD a k ch) = c from by funext j; by_cases e : j = 16; (subst e; rw [va_s, hL.1]); rw [va_n e rfl]]; exact hI⟩, rfl, sameR_up (by omega) (by omega)⟩)
  | succ d ih =>
    intro k c pm D hk hI
    obtain ⟨⟨h1, ⟨sf, h2, hsf⟩, h3, h4⟩, i1, i2, i3, i4⟩ := hI
    generalize hS : svL (fun i => (D0 (pm0 i)).2.2.2) k = S at i1 i2 ⊢
    have hSl : S.length ≤ k := by rw [← hS]; exact svL_len _ _
    obtain ⟨ek, eD⟩ := i3 k (Nat.le_refl _) (by omega)
    have hpk := hp0.1 k (by omega)
    have hsh := h4 (pm0 k) hpk
    rw [eD] at hsh
    obtain ⟨s1, s2, hp1, g1, s3, s4⟩ := hsh
    have hwk := hw (pm0 k) hpk
    have hs' : svL (fun i => (D0 (pm0 i)).2.2.2) (k + 1) = if 0 < (D0 (pm0 k)).2.2.2 * 3 / 4 then S ++ [k] else S := by rw [svL_s, hS]
    have inj : ∀ i, i < 8 → i ≠ k → pm0 i ≠ pm0 k := fun i hi hik z => hik (hp0.2 i k hi (by omega) z)
    have hD1 : ∀ j, j < 8 → shp X a (va_up c (18 + 7 * pm0 k) (oH a (pm0 k) ((D0 (pm0 k)).2.2.2 * 3 / 4))) j (va_up D (pm0 k) (fadW (D0 (pm0 k))) j) := by
      intro j hj
      by_cases e : j = pm0 k
      · subst e
        rw [va_s]
        exact ⟨va_s, s2.same (same_up (l := [18 + 7 * pm0 k]) (by simp)) (by simp; omega), hp1, g1, va_n (by omega) s3, va_n (by omega) s4⟩
      · rw [va_n e rfl]
        exact (h4 j hj).keep (fun p p1 p2 => va_n (by omega) rfl)
    refine w_iload_n d_D_fade_15 rfl ?_
    refine w_aload_n d_D_fade_16 rfl ?_
    refine w_getf g_D_26 d_D_fade_17 h1 rfl (by decide) ?_
    refine w_icmp_ge 76 d_D_fade_20 (by decide) (fun hn => absurd hn (fun z => absurd ((nI_leI (by omega) (by omega)).mp z) (by omega))) (fun _ => ?_)
    refine w_aload_n d_D_fade_23 rfl ?_
    refine w_getf g_D_11 d_D_fade_24 h1 rfl (by decide) ?_
    refine w_iload_n d_D_fade_27 rfl ?_
    refine w_aald d_D_fade_28 h2 rfl (by omega) (by decide) (by decide) ?_
    rw [hsf k (by omega), ek]
    refine w_astore_n d_D_fade_29 (by decide) ?_
    refine w_aload_n d_D_fade_30 rfl ?_
    refine w_aload_n d_D_fade_31 rfl ?_
    refine w_getf g_D_30 d_D_fade_32 s1 rfl (by omega) ?_
    refine w_sI [_] c_D_44 d_D_fade_35 (d_three (by omega)) (fun x w hw => ?_) rfl rfl (gq rfl) (gq rfl) (gq rfl) (gq rfl) (gq rfl) (gq rfl)
    obtain ⟨rfl, rfl⟩ := hw
    refine w_putf p_D_30 d_D_fade_38 s1 rfl rfl (gqL rfl) (by omega) ?_
    refine w_aload_n d_D_fade_41 rfl ?_
    refine w_getf g_D_30 d_D_fade_42 va_s rfl (by omega) ?_
    refine w_if_le 70 d_D_fade_45 (by decide) (fun hz => ?_) (fun hz => ?_)
    · -- taken
      have hz0 : (D0 (pm0 k)).2.2.2 * 3 / 4 = 0 := by have := (nI_leI (b := 0) (by omega) (by decide)).mp hz; omega
      rw [if_neg (by omega)] at hs'
      first | refine w_iinc _ d_D_fade_70 rfl (nIinc _) (by decide) ?_ | refine w_iinc _ d_D_fade_70 rfl rfl (by decide) ?_
      refine w_goto 15 d_D_fade_73 (by decide) ?_
      have hI' : fadI X a (va_up c (18 + 7 * pm0 k) (oH a (pm0 k) ((D0 (pm0 k)).2.2.2 * 3 / 4))) cnt ch pm0 D0 (k + 1) pm (va_up D (pm0 k) (fadW (D0 (pm0 k)))) := by
        refine ⟨⟨va_n (by omega) h1, ⟨sf, va_n (by omega) h2, hsf⟩, h3, hD1⟩, ?_, ?_, ?_, ?_⟩
        · rw [hs']; exact i1
        · rw [hs']; intro i hi1 hi2
          by_cases e : pm i = pm0 k
          · rw [e, va_s]; exact hz0
          · rw [va_n e rfl]
            by_cases e2 : i = k
            · rw [e2, ek] at e; exact absurd rfl e
            · exact i2 i hi1 (by omega)
        · intro i hi1 hi2; have := i3 i (by omega) hi2; exact ⟨this.1, va_n (inj i hi2 (by omega)) this.2⟩
        · intro i hi
          by_cases e : i = k
          · rw [e, va_s]
          · exact va_n (inj i (by omega) e) (i4 i (by omega))
      refine w_post (fun r w hw' => ?_) (w_sel [0, 1, 2] ?_ (ih (k + 1) _ _ _ (by omega) hI'))
      · exact ⟨hw'.1, hw'.2.1, hw'.2.2.1, sameR_trans (sameR_up (by omega) (by omega)) hw'.2.2.2⟩
      · rw [hs']; rfl
    · -- not taken
      have hz0 : 0 < (D0 (pm0 k)).2.2.2 * 3 / 4 := Nat.not_le.mp (fun z => hz ((nI_leI (b := 0) (by omega) (by decide)).mpr z))
      rw [if_pos hz0] at hs'
      have h11 : va_up c (18 + 7 * pm0 k) (oH a (pm0 k) ((D0 (pm0 k)).2.2.2 * 3 / 4)) 16 = oD a cnt ch := va_n (by omega) h1
      have h21 : va_up c (18 + 7 * pm0 k) (oH a (pm0 k) ((D0 (pm0 k)).2.2.2 * 3 / 4)) 17 = aQ X sf := va_n (by omega) h2
      have hpl := h3.1 S.length (by omega)
      refine w_aload_n d_D_fade_48 rfl ?_
      refine w_getf g_D_11 d_D_fade_49 h11 rfl (by decide) ?_
      refine w_iload_n d_D_fade_52 rfl ?_
      refine w_aload_n d_D_fade_53 rfl ?_
      refine w_getf g_D_11 d_D_fade_54 h11 rfl (by decide) ?_
      refine w_iload_n d_D_fade_57 rfl ?_
      refine w_aald d_D_fade_58 h21 rfl (by omega) (by decide) (by decide) ?_
      rw [hsf S.length (by omega)]
      have hsl := hD1 (pm S.length) hpl
      refine w_aast d_D_fade_59 h21 hsl.1 rfl rfl rfl (by omega) (by decide) (by decide) (by omega) ?_
      refine w_aload_n d_D_fade_60 rfl ?_
      refine w_getf g_D_11 d_D_fade_61 (va_n (by omega) h11) rfl (by decide) ?_
      have hsk : va_up (va_up c (18 + 7 * pm0 k) (oH a (pm0 k) ((D0 (pm0 k)).2.2.2 * 3 / 4))) 17 (aQ X (va_up sf k (some (a (18 + 7 * pm S.length))))) (18 + 7 * pm0 k) = oH a (pm0 k) ((D0 (pm0 k)).2.2.2 * 3 / 4) := va_n (by omega) va_s
      refine w_iload_n d_D_fade_64 rfl ?_
      refine w_aload_n d_D_fade_65 rfl ?_
      refine w_aast d_D_fade_66 va_s hsk rfl rfl rfl (by omega) (by decide) (by decide) (by omega) ?_
      first | refine w_iinc _ d_D_fade_67 rfl (nIinc _) (by decide) ?_ | refine w_iinc _ d_D_fade_67 rfl rfl (by decide) ?_
      first | refine w_iinc _ d_D_fade_70 rfl (nIinc _) (by decide) ?_ | refine w_iinc _ d_D_fade_70 rfl rfl (by decide) ?_
      refine w_goto 15 d_D_fade_73 (by decide) ?_
      rw [bx_uu]
      have hI' : fadI X a (va_up (va_up c (18 + 7 * pm0 k) (oH a (pm0 k) ((D0 (pm0 k)).2.2.2 * 3 / 4))) 17 (aQ X (va_up (va_up sf k (some (a (18 + 7 * pm S.length)))) S.length (some (a (18 + 7 * pm0 k)))))) cnt ch pm0 D0 (k + 1) (va_up (va_up pm k (pm S.length)) S.length (pm k)) (va_up D (pm0 k) (fadW (D0 (pm0 k)))) := by
        refine ⟨⟨va_n (by omega) h11, ⟨_, va_s, fun i hi => ?_⟩, perm_swap h3 (by omega) (by omega), fun j hj => (hD1 j hj).keep (fun p p1 p2 => va_n (by omega) rfl)⟩, ?_, ?_, ?_, ?_⟩
        · by_cases e1 : i = S.length
          · rw [e1, va_s, va_s, ek]
          · rw [va_n e1 rfl, va_n e1 rfl]
            by_cases e2 : i = k
            · rw [e2, va_s, va_s]
            · rw [va_n e2 rfl, va_n e2 rfl]; exact hsf i hi
        · rw [hs', List.length_append]; intro i hi
          by_cases e1 : i = S.length
          · rw [e1, va_s, ek]; congr 1; simp
          · have hi' : i < S.length := by simp at hi; omega
            rw [va_n e1 rfl, va_n (by omega) rfl, i1 i hi']
            congr 1
            simp [List.getD_eq_getElem?_getD, List.getElem?_append_left hi']
        · rw [hs', List.length_append]; intro i hi1 hi2
          have hi3 : S.length + 1 ≤ i := by simpa using hi1
          rw [va_n (f := va_up pm k (pm S.length)) (show i ≠ S.length by omega) rfl]
          by_cases e2 : i = k
          · rw [e2, va_s]
            have hlk : S.length < k := by omega
            have hne : pm S.length ≠ pm0 k := fun z => by rw [← ek] at z; have := h3.2 _ _ (by omega) (by omega) z; omega
            rw [va_n hne rfl]; exact i2 _ (Nat.le_refl _) hlk
          · rw [va_n (f := pm) e2 rfl]
            have hne : pm i ≠ pm0 k := fun z => by rw [← ek] at z; have := h3.2 _ _ (by omega) (by omega) z; omega
            rw [va_n hne rfl]; exact i2 i (by omega) (by omega)
        · intro i hi1 hi2; have := i3 i (by omega) hi2
          refine ⟨?_, va_n (inj i hi2 (by omega)) this.2⟩
          rw [va_n (f := va_up pm k (pm S.length)) (show i ≠ S.length by omega) rfl, va_n (f := pm) (show i ≠ k by omega) rfl]; exact this.1
        · intro i hi
          by_cases e : i = k
          · rw [e, va_s]
          · exact va_n (inj i (by omega) e) (i4 i (by omega))
      refine w_post (fun r w hw' => ?_) (w_sel [0, 1, 2] ?_ (ih (k + 1) _ _ _ (by omega) hI'))
      · exact ⟨hw'.1, hw'.2.1, hw'.2.2.1, sameR_trans (sameR_trans (sameR_up (by omega) (by omega)) (sameR_up (by omega) (by omega))) hw'.2.2.2⟩
      · rw [hs', List.length_append]; rfl
theorem d_fade (hL : led X a c cnt ch pm D) (hc : cnt ≤ 8) (hch : ch < 10000) (hw : ∀ j, j < 8 → (D j).2.2.2 < 10000) (h0 : ∀ i, cnt ≤ i → i < 8 → (D (pm i)).2.2.2 = 0) :
    GW X a m_D_fade 1 20 0 0 0 (lv_args 0 [.ref (a 16)]) [] c (pV (fun w => (∃ pm' D', led X a w (svL (fun i => (D (pm i)).2.2.2) cnt).length (ch * 3 / 4) pm' D' ∧ (∀ i, i < (svL (fun i => (D (pm i)).2.2.2) cnt).length → D' (pm' i) = fadW (D (pm ((svL (fun i => (D (pm i)).2.2.2) cnt).getD i 0)))) ∧ (∀ i, (svL (fun i => (D (pm i)).2.2.2) cnt).length ≤ i → i < 8 → (D' (pm' i)).2.2.2 = 0)) ∧ sameR c w 16 73)) := by
  refine w_aload_n d_D_fade_0 rfl ?_
  refine w_aload_n d_D_fade_1 rfl ?_
  refine w_getf g_D_41 d_D_fade_2 hL.1 rfl (by decide) ?_
  refine w_sI [_] c_D_44 d_D_fade_5 (d_three (by omega)) (fun x w hw => ?_) rfl rfl (gq rfl) (gq rfl) (gq rfl) (gq rfl) (gq rfl) (gq rfl)
  obtain ⟨rfl, rfl⟩ := hw
  refine w_putf p_D_41 d_D_fade_8 hL.1 rfl rfl (gqL rfl) (by decide) ?_
  refine w_iconst 0 d_D_fade_11 (by decide) ?_
  refine w_istore_n d_D_fade_12 (by decide) ?_
  refine w_iconst 0 d_D_fade_13 (by decide) ?_
  refine w_istore_n d_D_fade_14 (by decide) ?_
  have hL1 : led X a (va_up c 16 (oD a cnt (ch * 3 / 4))) cnt (ch * 3 / 4) pm D := ⟨va_s, ⟨_, va_n (by decide) hL.2.1.choose_spec.1, hL.2.1.choose_spec.2⟩, hL.2.2.1, fun j hj => (hL.2.2.2 j hj).keep (fun p p1 p2 => va_n (by omega) rfl)⟩
  refine w_post (fun r w hw' => ?_) (d_fdLoop hL.2.2.1 hc hw cnt 0 _ pm D (by omega) ⟨hL1, fun i hi => absurd hi (by simp [svL]), fun i _ hi => absurd hi (by omega), fun i _ _ => ⟨rfl, rfl⟩, fun i hi => absurd hi (by omega)⟩)
  obtain ⟨e0, ⟨pm', D', hI⟩, e1, e2⟩ := hw'
  obtain ⟨⟨l1, ⟨sf, l2, l3⟩, l4, l5⟩, i1, i2, i3, i4⟩ := hI
  refine ⟨e0, ⟨pm', D', ⟨e1, ⟨sf, ?_, l3⟩, l4, fun j hj => (l5 j hj).keep (fun p p1 p2 => (va_n (f := w) (show p ≠ 16 by omega) rfl).symm)⟩, fun i hi => ?_, fun i hi1 hi2 => ?_⟩, sameR_trans (sameR_up (by omega) (by omega)) e2⟩
  · rw [← l2, va_n (f := w) (show 17 ≠ 16 by decide) rfl]
  · rw [i1 i hi]; exact i4 _ (svL_mem (getD_mem hi)).1
  · by_cases e : i < cnt
    · exact i2 i hi1 e
    · have := i3 i (by omega) hi2; rw [this.1, this.2]; exact h0 i (by omega) hi2
end LG
