/-! Adviser; Integer.bitCount -/
abbrev oV (a : Nat → Nat) : va_E := .inr (7, [.ref (a 1), .ref (a 8), .ref (a 16)])
def popc (m : Nat) : Nat := m % 2 + m / 2 % 2 + m / 4 % 2 + m / 8 % 2 + m / 16 % 2 + m / 32 % 2 + m / 64 % 2 + m / 128 % 2 + m / 256 % 2
theorem popc_le (m : Nat) : popc m ≤ 9 := by unfold popc; omega
-- the shapes that have been measured: the first k by their places
def msd (X : gX) (a : Nat → Nat) (c : Nat → va_E) (h v : Nat → Int32) (ins rt k : Nat) (pm : Nat → Nat) (D : SH) : Prop :=
  ∀ i, i < k → c (23 + 7 * pm i) = oW a (23 + 7 * pm i) (nI (fours ins)) ∧ ∃ g, c (23 + 7 * pm i + 1) = aI X 9 g ∧ ∀ q, q < 9 → g q = costX h v (D (pm i)).1 (D (pm i)).2.1 (D (pm i)).2.2.1 ins rt q
-- the least pages for a shape within a set
def lsS (h v : Nat → Int32) (ins rt m : Nat) (D : (Nat → Int32) × (Nat → Int32) × (Nat → Int32) × Nat) : Int32 := wyV (costX h v D.1 D.2.1 D.2.2.1 ins rt) (nI (fours ins)) (wyGo (costX h v D.1 D.2.1 D.2.2.1 ins rt) (nI (fours ins)) m 9)
def smGo (f : Nat → Int64) : Nat → Int64
  | 0 => 0
  | k + 1 => smGo f k + f k
def setC (h v : Nat → Int32) (ins rt cnt ch : Nat) (S : SH) (m : Nat) : Int64 := smGo (fun k => (nI (S k).2.2.2).toInt64 * (lsS h v ins rt m (S k)).toInt64) cnt + (nI ch).toInt64 * (nI (hgt (leavesOf rt) + 1)).toInt64 * (nI (popc m)).toInt64
def bsGo (sc : Nat → Int64) (sz bd : Nat) : Nat → Nat × Int64
  | 0 => (0, sc 0)
  | k + 1 => if popc (k + 1) * sz ≤ bd ∧ (sc (k + 1) < (bsGo sc sz bd k).2 ∨ (sc (k + 1) = (bsGo sc sz bd k).2 ∧ popc (k + 1) < popc (bsGo sc sz bd k).1)) then (k + 1, sc (k + 1)) else bsGo sc sz bd k
theorem bsGo_le (sc : Nat → Int64) (sz bd : Nat) : ∀ k, (bsGo sc sz bd k).1 ≤ k
  | 0 => Nat.le_refl _
  | k + 1 => by
    unfold bsGo
    split
    · exact Nat.le_refl _
    · have := bsGo_le sc sz bd k; omega
theorem wyGo_cong {g g' : Nat → Int32} {hp : Int32} {m : Nat} (h : ∀ i, i < 9 → g i = g' i) : ∀ k, k ≤ 9 → wyGo g hp m k = wyGo g' hp m k ∧ wyV g hp (wyGo g hp m k) = wyV g' hp (wyGo g' hp m k)
  | 0, _ => ⟨rfl, rfl⟩
  | k + 1, hk => by
    obtain ⟨e1, e2⟩ := wyGo_cong h k (by omega)
    have e3 : wyGo g hp m (k + 1) = wyGo g' hp m (k + 1) := by
      rw [wyGo, wyGo, e2, h k (by omega), e1]
    refine ⟨e3, ?_⟩
    rw [e3]
    cases hw : wyGo g' hp m (k + 1) with
    | none => rfl
    | some j => exact h j (by have := wyGo_lt hw; omega)
theorem lcmp_lt (x y : Int64) : lg_cmp x y < 0 ↔ x < y := by
  have := lg_cmp_ge x y
  rw [← Int32.not_le, this, Int64.not_le]
theorem lcmp_eq (x y : Int64) : lg_cmp x y = 0 ↔ x = y := by
  unfold lg_cmp
  by_cases h1 : x > y
  · rw [if_pos h1]
    refine ⟨fun z => absurd z (by decide), fun z => ?_⟩
    rw [z] at h1
    exact absurd h1 Int64.lt_irrefl
  · rw [if_neg h1]
    by_cases h2 : x = y
    · rw [if_pos h2]; exact ⟨fun _ => h2, fun _ => rfl⟩
    · rw [if_neg h2]; exact ⟨fun z => absurd z (by decide), fun z => absurd z h2⟩
section AV
variable {X : gX} {a : Nat → Nat} {c : Nat → va_E} {ins rt cnt ch : Nat} {v h : Nat → Int32} {pm : Nat → Nat} {D : SH}
theorem j_bitCount {m : Nat} (hm : m < 512) : GW X a m_J_bitCount 0 0 0 0 0 (lv_args 0 [.int (nI m)]) [] c (pI (eI (nI (popc m)) c)) := by
  refine w_iload_n d_J_bitCount_0 rfl ?_
  refine w_iload_n d_J_bitCount_1 rfl ?_
  refine w_iconst 1 d_J_bitCount_2 (by decide) ?_
  refine w_iushr d_J_bitCount_3 ?_
  refine w_ldc_w _ d_J_bitCount_4 w_528 ?_
  refine w_iand d_J_bitCount_7 ?_
  refine w_isub d_J_bitCount_8 ?_
  refine w_istore_n d_J_bitCount_9 (by decide) ?_
  refine w_iload_n d_J_bitCount_10 rfl ?_
  refine w_ldc_w _ d_J_bitCount_11 w_529 ?_
  refine w_iand d_J_bitCount_14 ?_
  refine w_iload_n d_J_bitCount_15 rfl ?_
  refine w_iconst 2 d_J_bitCount_16 (by decide) ?_
  refine w_iushr d_J_bitCount_17 ?_
  refine w_ldc_w _ d_J_bitCount_18 w_529 ?_
  refine w_iand d_J_bitCount_21 ?_
  refine w_iadd d_J_bitCount_22 ?_
  refine w_istore_n d_J_bitCount_23 (by decide) ?_
  refine w_iload_n d_J_bitCount_24 rfl ?_
  refine w_iload_n d_J_bitCount_25 rfl ?_
  refine w_iconst 4 d_J_bitCount_26 (by decide) ?_
  refine w_iushr d_J_bitCount_27 ?_
  refine w_iadd d_J_bitCount_28 ?_
  refine w_ldc_w _ d_J_bitCount_29 w_530 ?_
  refine w_iand d_J_bitCount_32 ?_
  refine w_istore_n d_J_bitCount_33 (by decide) ?_
  refine w_iload_n d_J_bitCount_34 rfl ?_
  refine w_iload_n d_J_bitCount_35 rfl ?_
  refine w_bipush 8 d_J_bitCount_36 (by decide) ?_
  refine w_iushr d_J_bitCount_38 ?_
  refine w_iadd d_J_bitCount_39 ?_
  refine w_istore_n d_J_bitCount_40 (by decide) ?_
  refine w_iload_n d_J_bitCount_41 rfl ?_
  refine w_iload_n d_J_bitCount_42 rfl ?_
  refine w_bipush 16 d_J_bitCount_43 (by decide) ?_
  refine w_iushr d_J_bitCount_45 ?_
  refine w_iadd d_J_bitCount_46 ?_
  refine w_istore_n d_J_bitCount_47 (by decide) ?_
  refine w_iload_n d_J_bitCount_48 rfl ?_
  refine w_bipush 63 d_J_bitCount_49 (by decide) ?_
  refine w_iand d_J_bitCount_51 ?_
  exact w_iret d_J_bitCount_52 rfl (⟨_, rfl, by revert hm; revert m; decide +kernel, rfl⟩)
theorem v_msGo (hi : ins ≤ 64) (hrt : rt ≤ 64) (hc : cnt ≤ 8) : ∀ (d k : Nat) (c : Nat → va_E), k + d = cnt → c 1 = oT a ins rt → c 2 = aI X 192 v → c 3 = aZ X 64 h → stA X a c → c 74 = oV a → led X a c cnt ch pm D → msd X a c h v ins rt k pm D →
    GW X a m_V_measure 5 115 0 0 2 [(0, .ref (a 74)), (1, .int (nI k))] [] c (pV (fun w => stA X a w ∧ led X a w cnt ch pm D ∧ msd X a w h v ins rt cnt pm D ∧ ∀ p, (p < 8 ∨ 73 < p ∨ (10 < p ∧ p < 18)) → w p = c p)) := by
  intro d
  induction d with
  | zero =>
    intro k c hk hT hV hH hA hO hL hM
    have e : k = cnt := by omega
    subst e
    refine w_iload_n d_V_measure_2 rfl ?_
    refine w_aload_n d_V_measure_3 rfl ?_
    refine w_getf g_V_19 d_V_measure_4 hO rfl (by decide) ?_
    refine w_getf g_V_23 d_V_measure_7 hL.1 rfl (by decide) ?_
    refine w_icmp_ge 48 d_V_measure_10 (by decide) (fun _ => ?_) (fun hn => absurd ((nI_leI (by omega) (by omega)).mpr (by omega)) hn)
    exact w_vret d_V_measure_48 rfl (⟨rfl, hA, hL, hM, fun _ _ => rfl⟩)
  | succ d ih =>
    intro k c hk hT hV hH hA hO hL hM
    have hL0 := hL
    obtain ⟨h1, ⟨sf, h2, hsf⟩, h3, h4⟩ := hL
    have hp := h3.1 k (by omega)
    obtain ⟨s1, s2, hp0, g0, s3, s4⟩ := h4 (pm k) hp
    refine w_iload_n d_V_measure_2 rfl ?_
    refine w_aload_n d_V_measure_3 rfl ?_
    refine w_getf g_V_19 d_V_measure_4 hO rfl (by decide) ?_
    refine w_getf g_V_23 d_V_measure_7 h1 rfl (by decide) ?_
    refine w_icmp_ge 48 d_V_measure_10 (by decide) (fun hn => absurd hn (fun z => absurd ((nI_leI (by omega) (by omega)).mp z) (by omega))) (fun _ => ?_)
    refine w_aload_n d_V_measure_13 rfl ?_
    refine w_getf g_V_19 d_V_measure_14 hO rfl (by decide) ?_
    refine w_getf g_V_29 d_V_measure_17 h1 rfl (by decide) ?_
    refine w_iload_n d_V_measure_20 rfl ?_
    refine w_aald d_V_measure_21 h2 rfl (by omega) (by decide) (by decide) ?_
    rw [hsf k (by omega)]
    refine w_astore_n d_V_measure_22 (by decide) ?_
    refine w_aload_n d_V_measure_23 rfl ?_
    refine w_getf g_V_33 d_V_measure_24 s1 rfl (by omega) ?_
    refine w_aload_n d_V_measure_27 rfl ?_
    refine w_getf g_V_9 d_V_measure_28 hO rfl (by decide) ?_
    refine w_aload_n d_V_measure_31 rfl ?_
    refine w_getf g_V_15 d_V_measure_32 hO rfl (by decide) ?_
    refine w_aload_n d_V_measure_35 rfl ?_
    refine w_getf g_V_39 d_V_measure_36 s1 rfl (by omega) ?_
    refine w_vV [_, _, _] c_V_43 d_V_measure_39 rfl s3 (by omega) (w_measure (qw := 23 + 7 * pm k) (q := 19 + 7 * pm k) hi hrt (by omega) (by omega) (by omega) (by omega) (by omega) hT hV hH s2 hA s3 s4) (fun w hw => ?_) rfl rfl (gq rfl) (gq rfl) (gq rfl) (gq rfl) (gq rfl) (gq rfl)
    obtain ⟨m1, ⟨g', m2, m3⟩, m4, m5⟩ := hw
    first | refine w_iinc _ d_V_measure_42 rfl (nIinc _) (by decide) ?_ | refine w_iinc _ d_V_measure_42 rfl rfl (by decide) ?_
    refine w_goto 2 d_V_measure_45 (by decide) ?_
    have key : ∀ p, (p < 8 ∨ (10 < p ∧ p ≠ 23 + 7 * pm k ∧ p ≠ 24 + 7 * pm k)) → w p = c p := fun p hpp => m5 p (by simp; omega)
    have hsh : ∀ j, j < 8 → shp X a w j (D j) := by
      intro j hj
      by_cases e : j = pm k
      · subst e; exact ⟨(key _ (by omega)).trans s1, ⟨(key _ (by omega)).trans s2.1, (key _ (by omega)).trans s2.2.1, (key _ (by omega)).trans s2.2.2.1, (key _ (by omega)).trans s2.2.2.2⟩, _, g', m1, m2⟩
      · exact (h4 j hj).keep (fun p p1 p2 => key p (by omega))
    refine w_post (fun r w' hw' => ?_) (w_sel [0, 1] rfl (ih (k + 1) w (by omega) ((key 1 (by omega)).trans hT) ((key 2 (by omega)).trans hV) ((key 3 (by omega)).trans hH) m4 ((key 74 (by omega)).trans hO) ⟨(key 16 (by omega)).trans h1, ⟨sf, (key 17 (by omega)).trans h2, hsf⟩, h3, hsh⟩ (fun i hi' => ?_)))
    · exact ⟨hw'.1, hw'.2.1, hw'.2.2.1, hw'.2.2.2.1, fun p hpp => (hw'.2.2.2.2 p hpp).trans (key p (by omega))⟩
    · by_cases e : i = k
      · subst e; exact ⟨m1, g', m2, m3⟩
      · have hne : pm i ≠ pm k := fun z => e (h3.2 _ _ (by omega) (by omega) z)
        have := hM i (by omega)
        exact ⟨(key _ (by omega)).trans this.1, this.2.choose, (key _ (by omega)).trans this.2.choose_spec.1, this.2.choose_spec.2⟩
theorem v_measure (hi : ins ≤ 64) (hrt : rt ≤ 64) (hc : cnt ≤ 8) (hT : c 1 = oT a ins rt) (hV : c 2 = aI X 192 v) (hH : c 3 = aZ X 64 h) (hA : stA X a c) (hO : c 74 = oV a) (hL : led X a c cnt ch pm D) :
    GW X a m_V_measure 5 115 0 0 0 (lv_args 0 [.ref (a 74)]) [] c (pV (fun w => stA X a w ∧ led X a w cnt ch pm D ∧ msd X a w h v ins rt cnt pm D ∧ ∀ p, (p < 8 ∨ 73 < p ∨ (10 < p ∧ p < 18)) → w p = c p)) := by
  refine w_iconst 0 d_V_measure_0 (by decide) ?_
  refine w_istore_n d_V_measure_1 (by decide) ?_
  exact v_msGo hi hrt hc cnt 0 c (by omega) hT hV hH hA hO hL (fun i h => absurd h (by omega))
theorem v_scGo {m : Nat} (hrt : rt ≤ 64) (hc : cnt ≤ 8) (hm : m < 512) (hT : c 1 = oT a ins rt) (hO : c 74 = oV a) (hL : led X a c cnt ch pm D) (hM : msd X a c h v ins rt cnt pm D) : ∀ (d k : Nat), k + d = cnt →
    GW X a m_V_setCost 3 66 0 0 5 [(0, .ref (a 74)), (1, .int (nI m)), (2, .long (smGo (fun k => (nI (D (pm k)).2.2.2).toInt64 * (lsS h v ins rt m (D (pm k))).toInt64) k)), (4, .int (nI k))] [] c (pJ (eJ (setC h v ins rt cnt ch (fun k => D (pm k)) m) c)) := by
  obtain ⟨h1, ⟨sf, h2, hsf⟩, h3, h4⟩ := hL
  intro d
  induction d with
  | zero =>
    intro k hk
    have e : k = cnt := by omega
    subst e
    refine w_iload d_V_setCost_5 rfl ?_
    refine w_aload_n d_V_setCost_7 rfl ?_
    refine w_getf g_V_19 d_V_setCost_8 hO rfl (by decide) ?_
    refine w_getf g_V_23 d_V_setCost_11 h1 rfl (by decide) ?_
    refine w_icmp_ge 55 d_V_setCost_14 (by decide) (fun _ => ?_) (fun hn => absurd ((nI_leI (by omega) (by omega)).mpr (by omega)) hn)
    refine w_aload_n d_V_setCost_55 rfl ?_
    refine w_getf g_V_19 d_V_setCost_56 hO rfl (by decide) ?_
    refine w_getf g_V_56 d_V_setCost_59 h1 rfl (by decide) ?_
    refine w_i2l d_V_setCost_62 ?_
    refine w_aload_n d_V_setCost_63 rfl ?_
    refine w_getf g_V_9 d_V_setCost_64 hO rfl (by decide) ?_
    refine w_vI [] c_V_59 d_V_setCost_67 rfl hT (by decide) (t_indexHeight hT hrt) (fun x w hw => ?_) rfl rfl (gq rfl) (gq rfl) (gq rfl) (gq rfl) (gq rfl) (gq rfl)
    obtain ⟨rfl, rfl⟩ := hw
    refine w_iconst 1 d_V_setCost_70 (by decide) ?_
    refine w_iadd d_V_setCost_71 ?_
    rw [nI_1]
    refine w_i2l d_V_setCost_72 ?_
    refine w_lmul d_V_setCost_73 ?_
    refine w_lstore d_V_setCost_74 (by decide) ?_
    refine w_lload_n d_V_setCost_76 rfl ?_
    refine w_lload d_V_setCost_77 rfl ?_
    refine w_iload_n d_V_setCost_79 rfl ?_
    refine w_sI [_] c_V_65 d_V_setCost_80 (j_bitCount hm) (fun x w hw => ?_) rfl rfl (gq rfl) (gq rfl) (gq rfl) (gq rfl) (gq rfl) (gq rfl)
    obtain ⟨rfl, rfl⟩ := hw
    refine w_i2l d_V_setCost_83 ?_
    refine w_lmul d_V_setCost_84 ?_
    refine w_ladd d_V_setCost_85 ?_
    exact w_lret d_V_setCost_86 rfl (⟨_, rfl, rfl, rfl⟩)
  | succ d ih =>
    intro k hk
    have key := ih (k + 1) (by omega)
    have hp := h3.1 k (by omega)
    obtain ⟨s1, -⟩ := h4 (pm k) hp
    obtain ⟨m1, g, m2, m3⟩ := hM k (by omega)
    have hle := (wyGo_cong (g := g) (hp := nI (fours ins)) (m := m) m3 9 (Nat.le_refl _)).2
    refine w_iload d_V_setCost_5 rfl ?_
    refine w_aload_n d_V_setCost_7 rfl ?_
    refine w_getf g_V_19 d_V_setCost_8 hO rfl (by decide) ?_
    refine w_getf g_V_23 d_V_setCost_11 h1 rfl (by decide) ?_
    refine w_icmp_ge 55 d_V_setCost_14 (by decide) (fun hn => absurd hn (fun z => absurd ((nI_leI (by omega) (by omega)).mp z) (by omega))) (fun _ => ?_)
    refine w_aload_n d_V_setCost_17 rfl ?_
    refine w_getf g_V_19 d_V_setCost_18 hO rfl (by decide) ?_
    refine w_getf g_V_29 d_V_setCost_21 h1 rfl (by decide) ?_
    refine w_iload d_V_setCost_24 rfl ?_
    refine w_aald d_V_setCost_26 h2 rfl (by omega) (by decide) (by decide) ?_
    rw [hsf k (by omega)]
    refine w_astore d_V_setCost_27 (by decide) ?_
    refine w_lload_n d_V_setCost_29 rfl ?_
    refine w_aload d_V_setCost_30 rfl ?_
    refine w_getf g_V_49 d_V_setCost_32 s1 rfl (by omega) ?_
    refine w_i2l d_V_setCost_35 ?_
    refine w_aload d_V_setCost_36 rfl ?_
    refine w_getf g_V_33 d_V_setCost_38 s1 rfl (by omega) ?_
    refine w_iload_n d_V_setCost_41 rfl ?_
    refine w_vI [_] c_V_52 d_V_setCost_42 rfl m1 (by omega) (w_least m1 m2 (by omega) hm) (fun x w hw => ?_) rfl rfl (gq rfl) (gq rfl) (gq rfl) (gq rfl) (gq rfl) (gq rfl)
    obtain ⟨rfl, rfl⟩ := hw
    rw [hle]
    refine w_i2l d_V_setCost_45 ?_
    refine w_lmul d_V_setCost_46 ?_
    refine w_ladd d_V_setCost_47 ?_
    refine w_lstore_n d_V_setCost_48 (by decide) ?_
    first | refine w_iinc _ d_V_setCost_49 rfl (nIinc _) (by decide) ?_ | refine w_iinc _ d_V_setCost_49 rfl rfl (by decide) ?_
    refine w_goto 5 d_V_setCost_52 (by decide) ?_
    exact w_sel [0, 1, 2, 4] rfl key
theorem v_setCost {m : Nat} (hrt : rt ≤ 64) (hc : cnt ≤ 8) (hm : m < 512) (hT : c 1 = oT a ins rt) (hO : c 74 = oV a) (hL : led X a c cnt ch pm D) (hM : msd X a c h v ins rt cnt pm D) :
    GW X a m_V_setCost 3 66 0 0 0 (lv_args 0 [.ref (a 74), .int (nI m)]) [] c (pJ (eJ (setC h v ins rt cnt ch (fun k => D (pm k)) m) c)) := by
  refine w_lconst 0 d_V_setCost_0 (by decide) ?_
  refine w_lstore_n d_V_setCost_1 (by decide) ?_
  refine w_iconst 0 d_V_setCost_2 (by decide) ?_
  refine w_istore d_V_setCost_3 (by decide) ?_
  exact v_scGo hrt hc hm hT hO hL hM cnt 0 (by omega)
theorem szo_le {n : Nat} (h : n ≤ 16) : szo n ≤ 21 := by
  unfold szo fours
  split
  · omega
  · split <;> omega
theorem v_bsGo {bd : Nat} (hrt : rt ≤ 64) (hc : cnt ≤ 8) (hbd : bd ≤ 200) (hT : c 1 = oT a ins rt) (hO : c 74 = oV a) (hL : led X a c cnt ch pm D) (hM : msd X a c h v ins rt cnt pm D) : ∀ (d k : Nat), k + d = 511 →
    GW X a m_V_bestSet 4 91 0 0 20 [(0, .ref (a 74)), (1, .int (nI bd)), (2, .int (nI (szo (leavesOf rt)))), (3, .int (nI (bsGo (setC h v ins rt cnt ch (fun k => D (pm k))) (szo (leavesOf rt)) bd k).1)), (4, .long (bsGo (setC h v ins rt cnt ch (fun k => D (pm k))) (szo (leavesOf rt)) bd k).2), (6, .int (nI (k + 1)))] [] c (pI (eI (nI (bsGo (setC h v ins rt cnt ch (fun k => D (pm k))) (szo (leavesOf rt)) bd 511).1) c)) := by
  intro d
  have hsz := szo_le (leaves_le hrt).1
  induction d with
  | zero =>
    intro k hk
    have e : k = 511 := by omega
    subst e
    refine w_iload d_V_bestSet_20 rfl ?_
    refine w_sipush 512 d_V_bestSet_22 (by decide) ?_
    refine w_icmp_ge 89 d_V_bestSet_25 (by decide) (fun _ => ?_) (fun hn => absurd ((by decide)) hn)
    refine w_iload_n d_V_bestSet_89 rfl ?_
    exact w_iret d_V_bestSet_90 rfl (⟨_, rfl, rfl, rfl⟩)
  | succ d ih =>
    intro k hk
    have key := ih (k + 1) (by omega)
    have hb := bsGo_le (setC h v ins rt cnt ch (fun k => D (pm k))) (szo (leavesOf rt)) bd k
    have hpc := popc_le (k + 1)
    have hmul : popc (k + 1) * szo (leavesOf rt) ≤ 9 * 21 := Nat.mul_le_mul hpc hsz
    generalize hsc : setC h v ins rt cnt ch (fun k => D (pm k)) = sc at key hb ⊢
    generalize hbk : bsGo sc (szo (leavesOf rt)) bd k = B at hb ⊢
    have no : ¬ (popc (k + 1) * szo (leavesOf rt) ≤ bd ∧ (sc (k + 1) < B.2 ∨ (sc (k + 1) = B.2 ∧ popc (k + 1) < popc B.1))) → bsGo sc (szo (leavesOf rt)) bd (k + 1) = B := fun z => by rw [bsGo, hbk, if_neg z]
    have yes : (popc (k + 1) * szo (leavesOf rt) ≤ bd ∧ (sc (k + 1) < B.2 ∨ (sc (k + 1) = B.2 ∧ popc (k + 1) < popc B.1))) → bsGo sc (szo (leavesOf rt)) bd (k + 1) = (k + 1, sc (k + 1)) := fun z => by rw [bsGo, hbk, if_pos z]
    refine w_iload d_V_bestSet_20 rfl ?_
    refine w_sipush 512 d_V_bestSet_22 (by decide) ?_
    refine w_icmp_ge 89 d_V_bestSet_25 (by decide) (fun hn => absurd hn (fun z => absurd ((nI_leI (a := 512) (by decide) (by omega)).mp z) (by omega))) (fun _ => ?_)
    refine w_iload d_V_bestSet_28 rfl ?_
    refine w_sI [_] c_V_65 d_V_bestSet_30 (j_bitCount (m := k + 1) (by omega)) (fun x w hw => ?_) rfl rfl (gq rfl) (gq rfl) (gq rfl) (gq rfl) (gq rfl) (gq rfl)
    obtain ⟨rfl, rfl⟩ := hw
    refine w_istore d_V_bestSet_33 (by decide) ?_
    refine w_iload d_V_bestSet_35 rfl ?_
    refine w_iload_n d_V_bestSet_37 rfl ?_
    refine w_imul d_V_bestSet_38 ?_
    rw [pk_mul]
    refine w_iload_n d_V_bestSet_39 rfl ?_
    refine w_icmp_gt 83 d_V_bestSet_40 (by decide) (fun hg => ?_) (fun hg => ?_)
    · -- taken
      have hg' : bd < popc (k + 1) * szo (leavesOf rt) := (nI_ltI (by omega) (by omega)).mp hg
      rw [no (fun z => by omega)] at key
      first | refine w_iinc _ d_V_bestSet_83 rfl (nIinc _) (by decide) ?_ | refine w_iinc _ d_V_bestSet_83 rfl rfl (by decide) ?_
      refine w_goto 20 d_V_bestSet_86 (by decide) ?_
      exact w_sel [0, 1, 2, 3, 4, 6] rfl key
    · -- not taken
      have hg' : popc (k + 1) * szo (leavesOf rt) ≤ bd := Nat.not_lt.mp (fun z => hg ((nI_ltI (by omega) (by omega)).mpr z))
      have hcon := v_setCost (m := k + 1) (X := X) hrt hc (by omega) hT hO hL hM
      rw [hsc] at hcon
      refine w_aload_n d_V_bestSet_43 rfl ?_
      refine w_iload d_V_bestSet_44 rfl ?_
      refine w_vJ [_] c_V_73 d_V_bestSet_46 rfl hO (by decide) (hcon) (fun x w hw => ?_) rfl rfl (gq rfl) (gq rfl) (gq rfl) (gq rfl) (gq rfl) (gq rfl)
      obtain ⟨rfl, rfl⟩ := hw
      refine w_lstore d_V_bestSet_49 (by decide) ?_
      refine w_lload d_V_bestSet_51 rfl ?_
      refine w_lload d_V_bestSet_53 rfl ?_
      refine w_lcmp d_V_bestSet_55 ?_
      refine w_if_lt 76 d_V_bestSet_56 (by decide) (fun hl => ?_) (fun hl => ?_)
      · -- taken
        have hl' := (lcmp_lt _ _).mp hl
        rw [yes ⟨hg', Or.inl hl'⟩] at key
        refine w_iload d_V_bestSet_76 rfl ?_
        refine w_istore_n d_V_bestSet_78 (by decide) ?_
        refine w_lload d_V_bestSet_79 rfl ?_
        refine w_lstore d_V_bestSet_81 (by decide) ?_
        first | refine w_iinc _ d_V_bestSet_83 rfl (nIinc _) (by decide) ?_ | refine w_iinc _ d_V_bestSet_83 rfl rfl (by decide) ?_
        refine w_goto 20 d_V_bestSet_86 (by decide) ?_
        exact w_sel [0, 1, 2, 3, 4, 6] rfl key
      · -- not taken
        have hl' : ¬ sc (k + 1) < B.2 := fun z => hl ((lcmp_lt _ _).mpr z)
        refine w_lload d_V_bestSet_59 rfl ?_
        refine w_lload d_V_bestSet_61 rfl ?_
        refine w_lcmp d_V_bestSet_63 ?_
        refine w_if_ne 83 d_V_bestSet_64 (by decide) (fun he => ?_) (fun he => ?_)
        · -- taken
          have he' : ¬ sc (k + 1) = B.2 := fun z => he ((lcmp_eq _ _).mpr z)
          rw [no (fun z => z.2.elim hl' (fun q => he' q.1))] at key
          first | refine w_iinc _ d_V_bestSet_83 rfl (nIinc _) (by decide) ?_ | refine w_iinc _ d_V_bestSet_83 rfl rfl (by decide) ?_
          refine w_goto 20 d_V_bestSet_86 (by decide) ?_
          exact w_sel [0, 1, 2, 3, 4, 6] rfl key
        · -- not taken
          have he' := (lcmp_eq _ _).mp he
          have hpb := popc_le B.1
          refine w_iload d_V_bestSet_67 rfl ?_
          refine w_iload_n d_V_bestSet_69 rfl ?_
          refine w_sI [_] c_V_65 d_V_bestSet_70 (j_bitCount (m := B.1) (by omega)) (fun x w hw => ?_) rfl rfl (gq rfl) (gq rfl) (gq rfl) (gq rfl) (gq rfl) (gq rfl)
          obtain ⟨rfl, rfl⟩ := hw
          refine w_icmp_ge 83 d_V_bestSet_73 (by decide) (fun hp => ?_) (fun hp => ?_)
          · -- taken
            have hp' : popc B.1 ≤ popc (k + 1) := (nI_leI (by omega) (by omega)).mp hp
            rw [no (fun z => z.2.elim hl' (fun q => by omega))] at key
            first | refine w_iinc _ d_V_bestSet_83 rfl (nIinc _) (by decide) ?_ | refine w_iinc _ d_V_bestSet_83 rfl rfl (by decide) ?_
            refine w_goto 20 d_V_bestSet_86 (by decide) ?_
            exact w_sel [0, 1, 2, 3, 4, 6] rfl key
          · -- not taken
            have hp' : popc (k + 1) < popc B.1 := Nat.not_le.mp (fun z => hp ((nI_leI (by omega) (by omega)).mpr z))
            rw [yes ⟨hg', Or.inr ⟨he', hp'⟩⟩] at key
            refine w_iload d_V_bestSet_76 rfl ?_
            refine w_istore_n d_V_bestSet_78 (by decide) ?_
            refine w_lload d_V_bestSet_79 rfl ?_
            refine w_lstore d_V_bestSet_81 (by decide) ?_
            first | refine w_iinc _ d_V_bestSet_83 rfl (nIinc _) (by decide) ?_ | refine w_iinc _ d_V_bestSet_83 rfl rfl (by decide) ?_
            refine w_goto 20 d_V_bestSet_86 (by decide) ?_
            exact w_sel [0, 1, 2, 3, 4, 6] rfl key
theorem v_bestSet {bd : Nat} (hrt : rt ≤ 64) (hc : cnt ≤ 8) (hbd : bd ≤ 200) (hT : c 1 = oT a ins rt) (hO : c 74 = oV a) (hL : led X a c cnt ch pm D) (hM : msd X a c h v ins rt cnt pm D) :
    GW X a m_V_bestSet 4 91 0 0 0 (lv_args 0 [.ref (a 74), .int (nI bd)]) [] c (pI (eI (nI (bsGo (setC h v ins rt cnt ch (fun k => D (pm k))) (szo (leavesOf rt)) bd 511).1) c)) := by
  refine w_aload_n d_V_bestSet_0 rfl ?_
  refine w_getf g_V_9 d_V_bestSet_1 hO rfl (by decide) ?_
  refine w_vI [] c_V_70 d_V_bestSet_4 rfl hT (by decide) (t_indexSize hT hrt) (fun x w hw => ?_) rfl rfl (gq rfl) (gq rfl) (gq rfl) (gq rfl) (gq rfl) (gq rfl)
  obtain ⟨rfl, rfl⟩ := hw
  refine w_istore_n d_V_bestSet_7 (by decide) ?_
  refine w_iconst 0 d_V_bestSet_8 (by decide) ?_
  refine w_istore_n d_V_bestSet_9 (by decide) ?_
  refine w_aload_n d_V_bestSet_10 rfl ?_
  refine w_iload_n d_V_bestSet_11 rfl ?_
  refine w_vJ [_] c_V_73 d_V_bestSet_12 rfl hO (by decide) (v_setCost (m := 0) hrt hc (by decide) hT hO hL hM) (fun x w hw => ?_) rfl rfl (gq rfl) (gq rfl) (gq rfl) (gq rfl) (gq rfl) (gq rfl)
  obtain ⟨rfl, rfl⟩ := hw
  refine w_lstore d_V_bestSet_15 (by decide) ?_
  refine w_iconst 1 d_V_bestSet_17 (by decide) ?_
  refine w_istore d_V_bestSet_18 (by decide) ?_
  exact v_bsGo hrt hc hbd hT hO hL hM 511 0 (by omega)
end AV
