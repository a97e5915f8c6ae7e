/-! WayCosts -/
abbrev oW (a : Nat → Nat) (q : Nat) (hp : Int32) : va_E := .inr (4, [.ref (a (q + 1)), .int hp])
-- the pages that an index costs for a set of conditions, by the class's count of live rows rt
def bfI (h v K F : Nat → Int32) (ins i : Nat) : Nat := ((liveL h ins).filter (stB v F K i)).length
def inI (h v K F T : Nat → Int32) (ins i : Nat) : List Nat := (liveL h ins).filter (stI v K F T i)
def costN (h v K F T : Nat → Int32) (ins rt i : Nat) : Nat := hgt (leavesOf rt) + lvT (bfI h v K F ins i) (inI h v K F T ins i).length + (inI h v K F T ins i).length
def costX (h v K F T : Nat → Int32) (ins rt i : Nat) : Int32 := if K (fN i) = 0 then -1 else nI (costN h v K F T ins rt i)
-- a set's bit
def bit (m i : Nat) : Bool := decide (m / 2 ^ i % 2 = 1)
theorem bit_ok : ∀ m, m < 512 → ∀ i, i < 9 → (nI m >>> (nI i &&& 31)) &&& 1 = nI (m / 2 ^ i % 2) := by decide +kernel
def wyV (g : Nat → Int32) (hp : Int32) : Option Nat → Int32
  | none => hp
  | some j => g j
-- the cheapest way among the first k indexes of the set m
def wyGo (g : Nat → Int32) (hp : Int32) (m : Nat) : Nat → Option Nat
  | 0 => none
  | k + 1 => if bit m k = true ∧ ¬ g k = -1 ∧ g k < wyV g hp (wyGo g hp m k) then some k else wyGo g hp m k
theorem wyGo_lt {g : Nat → Int32} {hp : Int32} {m : Nat} : ∀ {k j : Nat}, wyGo g hp m k = some j → j < k
  | 0, j, e => by cases e
  | k + 1, j, e => by
    unfold wyGo at e
    split at e
    · cases e; omega
    · have := wyGo_lt e; omega
theorem filter_len_le {p : Nat → Bool} {h : Nat → Int32} {k : Nat} (hk : k ≤ 64) : ((liveL h k).filter p).length ≤ 64 := by
  have h1 := List.length_filter_le p (liveL h k)
  have h2 := liveL_len h k
  omega
section WC
variable {X : gX} {a : Nat → Nat} {c : Nat → va_E} {ins rt : Nat} {v h : Nat → Int32} {K F T : Nat → Int32} {q : Nat}
theorem w_msGo {qw : Nat} {hp : Int32} (hi : ins ≤ 64) (hrt : rt ≤ 64) (hq : q < 90) (hq2 : q + 3 < 8 ∨ 10 < q) (hqw : 10 < qw) (hqw2 : qw < 90) (hap : q + 3 < qw ∨ qw + 1 < q) : ∀ (d k : Nat) (c : Nat → va_E) (g : Nat → Int32), k + d = 9 → c 1 = oT a ins rt → c 2 = aI X 192 v → c 3 = aZ X 64 h → cnd X a c q K F T → stA X a c → c qw = oW a qw hp → c (qw + 1) = aI X 9 g → (∀ i, i < k → g i = costX h v K F T ins rt i) →
    GW X a m_W_measure 4 91 0 0 11 [(0, .ref (a qw)), (1, .ref (a 1)), (2, .ref (a 8)), (3, .ref (a q)), (4, .int (nI k))] [] c (pV (fun w => w qw = oW a qw hp ∧ (∃ g, w (qw + 1) = aI X 9 g ∧ ∀ i, i < 9 → g i = costX h v K F T ins rt i) ∧ stA X a w ∧ same c w [8, 9, 10, qw + 1])) := by
  intro d
  induction d with
  | zero =>
    intro k c g hk hT hV hH hC hA hW hB hg
    have e : k = 9 := by omega
    subst e
    refine w_iload d_W_measure_11 rfl ?_
    refine w_bipush 9 d_W_measure_13 (by decide) ?_
    refine w_icmp_ge 63 d_W_measure_15 (by decide) (fun _ => ?_) (fun hn => absurd ((nI_leI (a := 9) (b := 9) (by decide) (by decide)).mpr (by omega)) hn)
    exact w_vret d_W_measure_63 rfl (⟨rfl, hW, ⟨g, hB, hg⟩, hA, same_rf⟩)
  | succ d ih =>
    intro k c g hk hT hV hH hC hA hW hB hg
    have hk9 : k < 9 := by omega
    have hs1 : same c (va_up c (qw + 1) (aI X 9 (upd g k (-1)))) [8, 9, 10, qw + 1] := same_up (by simp)
    have hC1 : cnd X a (va_up c (qw + 1) (aI X 9 (upd g k (-1)))) q K F T := hC.same hs1 (by simp; omega)
    obtain ⟨f0, g0, sc0, bf0, n0, fr, hS, hR, hF⟩ := hA
    have hA1 : stA X a (va_up c (qw + 1) (aI X 9 (upd g k (-1)))) := ⟨f0, g0, sc0, bf0, n0, fr, va_n (by omega) hS, va_n (by omega) hR, va_n (by omega) hF⟩
    have hT1 : va_up c (qw + 1) (aI X 9 (upd g k (-1))) 1 = oT a ins rt := va_n (by omega) hT
    have hV1 : va_up c (qw + 1) (aI X 9 (upd g k (-1))) 2 = aI X 192 v := va_n (by omega) hV
    have hH1 : va_up c (qw + 1) (aI X 9 (upd g k (-1))) 3 = aZ X 64 h := va_n (by omega) hH
    have hW1 : va_up c (qw + 1) (aI X 9 (upd g k (-1))) qw = oW a qw hp := va_n (by omega) hW
    refine w_iload d_W_measure_11 rfl ?_
    refine w_bipush 9 d_W_measure_13 (by decide) ?_
    refine w_icmp_ge 63 d_W_measure_15 (by decide) (fun hn => absurd hn (fun z => absurd ((nI_leI (a := 9) (by decide) (by omega)).mp z) (by omega))) (fun _ => ?_)
    refine w_aload_n d_W_measure_18 rfl ?_
    refine w_getf g_W_9 d_W_measure_19 hW rfl (by omega) ?_
    refine w_iload d_W_measure_22 rfl ?_
    refine w_iconst (-1) d_W_measure_24 (by decide) ?_
    refine w_iast d_W_measure_25 hB rfl hk9 (by decide) (by omega) ?_
    refine w_aload_n d_W_measure_26 rfl ?_
    refine g_get1 (Or.inr ⟨_, w_312⟩) d_W_measure_27 ?_
    refine w_iload d_W_measure_30 rfl ?_
    refine w_ald1 d_W_measure_32 rfl hk9 ?_
    rw [fN_col hk9]
    refine w_vI [_] c_W_28 d_W_measure_33 rfl hC1.1 (by omega) (c_binds hC1 hq (fN_lt hk9)) (fun x w hw => ?_) rfl rfl (gq rfl) (gq rfl) (gq rfl) (gq rfl) (gq rfl) (gq rfl)
    obtain ⟨rfl, rfl⟩ := hw
    refine w_if_eq 57 d_W_measure_36 (by decide) (fun hb => ?_) (fun hb => ?_)
    · -- taken
      have hb' : K (fN k) = 0 := by have := bI_t.mp hb; simpa using this
      first | refine w_iinc _ d_W_measure_57 rfl (nIinc _) (by decide) ?_ | refine w_iinc _ d_W_measure_57 rfl rfl (by decide) ?_
      refine w_goto 11 d_W_measure_60 (by decide) ?_
      refine w_post (fun r w' hw' => ?_) (ih (k + 1) _ (upd g k (-1)) (by omega) hT1 hV1 hH1 hC1 hA1 hW1 va_s (fun i hi' => ?_))
      · exact ⟨hw'.1, hw'.2.1, hw'.2.2.1, hw'.2.2.2.1, same_trans hs1 hw'.2.2.2.2⟩
      · by_cases e : i = k
        · subst e; rw [pk_us, costX, if_pos hb']
        · rw [pk_un e]; exact hg i (by omega)
    · -- not taken
      have hb' : ¬ K (fN k) = 0 := by have := bI_n.mp hb; simpa using this
      have hS1 : va_up c (qw + 1) (aI X 9 (upd g k (-1))) 8 = oS a f0 g0 sc0 bf0 := va_n (by omega) hS
      refine w_aload_n d_W_measure_39 rfl ?_
      refine w_aload_n d_W_measure_40 rfl ?_
      refine w_iload d_W_measure_41 rfl ?_
      refine w_vV [_, _] c_W_34 d_W_measure_43 rfl hS1 (by decide) (s_lay hk9 hi hq hq2 hT1 hV1 hH1 hC1 hA1) (fun w hw => ?_) rfl rfl (gq rfl) (gq rfl) (gq rfl) (gq rfl) (gq rfl) (gq rfl)
      obtain ⟨hL, hs2⟩ := hw
      have hW2 : w qw = oW a qw hp := (hs2 qw (by simp; omega)).trans hW1
      have hB2 : w (qw + 1) = aI X 9 (upd g k (-1)) := (hs2 (qw + 1) (by simp; omega)).trans va_s
      have hT2 : w 1 = oT a ins rt := (hs2 1 (by decide)).trans hT1
      refine w_aload_n d_W_measure_46 rfl ?_
      refine w_getf g_W_9 d_W_measure_47 hW2 rfl (by omega) ?_
      refine w_iload d_W_measure_50 rfl ?_
      refine w_aload_n d_W_measure_52 rfl ?_
      refine w_vI [] c_W_40 d_W_measure_53 rfl hL.1 (by decide) (s_pages hL.1 hL.2.1 hT2 (filter_len_le hi) (filter_len_le hi) hrt) (fun x w hw => ?_) rfl rfl (gq rfl) (gq rfl) (gq rfl) (gq rfl) (gq rfl) (gq rfl)
      obtain ⟨rfl, rfl⟩ := hw
      refine w_iast d_W_measure_56 hB2 rfl hk9 (by decide) (by omega) ?_
      first | refine w_iinc _ d_W_measure_57 rfl (nIinc _) (by decide) ?_ | refine w_iinc _ d_W_measure_57 rfl rfl (by decide) ?_
      refine w_goto 11 d_W_measure_60 (by decide) ?_
      have hs3 : same c (va_up w (qw + 1) (aI X 9 (upd (upd g k (-1)) k (nI (hgt (leavesOf rt) + lvT ((liveL h ins).filter (stB v F K k)).length ((liveL h ins).filter (stI v K F T k)).length + ((liveL h ins).filter (stI v K F T k)).length))))) [8, 9, 10, qw + 1] := same_trans (same_trans hs1 (same_sub hs2 (by simp))) (same_up (by simp))
      obtain ⟨f1, g1, sc1, bf1, n1, fr1, k1, k2, k3⟩ := hL.any
      refine w_post (fun r w' hw' => ?_) (ih (k + 1) _ _ (by omega) (va_n (by omega) hT2) (va_n (by omega) ((hs2 2 (by decide)).trans hV1)) (va_n (by omega) ((hs2 3 (by decide)).trans hH1)) (hC.same hs3 (by simp; omega)) ⟨f1, g1, sc1, bf1, n1, fr1, va_n (by omega) k1, va_n (by omega) k2, va_n (by omega) k3⟩ (va_n (by omega) hW2) va_s (fun i hi' => ?_))
      · exact ⟨hw'.1, hw'.2.1, hw'.2.2.1, hw'.2.2.2.1, same_trans hs3 hw'.2.2.2.2⟩
      · by_cases e : i = k
        · subst e; rw [pk_us, costX, if_neg hb']; rfl
        · rw [pk_un e, pk_un e]; exact hg i (by omega)
theorem w_measure {qw : Nat} {hp : Int32} {g : Nat → Int32} (hi : ins ≤ 64) (hrt : rt ≤ 64) (hq : q < 90) (hq2 : q + 3 < 8 ∨ 10 < q) (hqw : 10 < qw) (hqw2 : qw < 90) (hap : q + 3 < qw ∨ qw + 1 < q) (hT : c 1 = oT a ins rt) (hV : c 2 = aI X 192 v) (hH : c 3 = aZ X 64 h) (hC : cnd X a c q K F T) (hA : stA X a c) (hW : c qw = oW a qw hp) (hB : c (qw + 1) = aI X 9 g) :
    GW X a m_W_measure 4 91 0 0 0 (lv_args 0 [.ref (a qw), .ref (a 1), .ref (a 8), .ref (a q)]) [] c (pV (fun w => w qw = oW a qw (nI (fours ins)) ∧ (∃ g, w (qw + 1) = aI X 9 g ∧ ∀ i, i < 9 → g i = costX h v K F T ins rt i) ∧ stA X a w ∧ same c w [8, 9, 10, qw, qw + 1])) := by
  have hs1 : same c (va_up c qw (oW a qw (nI (fours ins)))) [8, 9, 10, qw, qw + 1] := same_up (by simp)
  obtain ⟨f0, g0, sc0, bf0, n0, fr, hS, hR, hF⟩ := hA
  refine w_aload_n d_W_measure_0 rfl ?_
  refine w_aload_n d_W_measure_1 rfl ?_
  refine w_vI [] c_W_15 d_W_measure_2 rfl hT (by decide) (t_heapPages hT hi) (fun x w hw => ?_) rfl rfl (gq rfl) (gq rfl) (gq rfl) (gq rfl) (gq rfl) (gq rfl)
  obtain ⟨rfl, rfl⟩ := hw
  refine w_putf p_W_21 d_W_measure_5 hW rfl rfl (gqL rfl) (by omega) ?_
  refine w_iconst 0 d_W_measure_8 (by decide) ?_
  refine w_istore d_W_measure_9 (by decide) ?_
  refine w_post (fun r w' hw' => ?_) (w_msGo (hp := nI (fours ins)) hi hrt hq hq2 hqw hqw2 hap 9 0 _ g (by omega) (va_n (by omega) hT) (va_n (by omega) hV) (va_n (by omega) hH) (hC.same hs1 (by simp; omega)) ⟨f0, g0, sc0, bf0, n0, fr, va_n (by omega) hS, va_n (by omega) hR, va_n (by omega) hF⟩ va_s (va_n (by omega) hB) (fun i h => absurd h (by omega)))
  exact ⟨hw'.1, hw'.2.1, hw'.2.2.1, hw'.2.2.2.1, same_trans hs1 (same_sub hw'.2.2.2.2 (by simp))⟩
theorem w_at {qw : Nat} {hp : Int32} {g : Nat → Int32} {o : Option Nat} (hW : c qw = oW a qw hp) (hB : c (qw + 1) = aI X 9 g) (hqw : qw < 90) (ho : ∀ j, o = some j → j < 9) : GW X a m_W_at 0 0 0 0 0 (lv_args 0 [.ref (a qw), .int (oI o)]) [] c (pI (eI (wyV g hp o) c)) := by
  cases o with
  | none =>
    refine w_iload_n d_W_at_0 rfl ?_
    refine w_iconst (-1) d_W_at_1 (by decide) ?_
    refine w_icmp_ne 12 d_W_at_2 (by decide) (fun hn => absurd (rfl) hn) (fun _ => ?_)
    refine w_aload_n d_W_at_5 rfl ?_
    refine w_getf g_W_21 d_W_at_6 hW rfl (by omega) ?_
    refine w_goto 18 d_W_at_9 (by decide) ?_
    exact w_iret d_W_at_18 rfl (⟨_, rfl, rfl, rfl⟩)
  | some j =>
    have hj := ho j rfl
    refine w_iload_n d_W_at_0 rfl ?_
    refine w_iconst (-1) d_W_at_1 (by decide) ?_
    refine w_icmp_ne 12 d_W_at_2 (by decide) (fun _ => ?_) (fun hn => absurd hn ((nI_neg (by omega))))
    refine w_aload_n d_W_at_12 rfl ?_
    refine w_getf g_W_9 d_W_at_13 hW rfl (by omega) ?_
    refine w_iload_n d_W_at_16 rfl ?_
    refine w_iald d_W_at_17 hB rfl hj (by decide) (by omega) ?_
    exact w_iret d_W_at_18 rfl (⟨_, rfl, rfl, rfl⟩)
theorem w_chGo {qw m : Nat} {hp : Int32} {g : Nat → Int32} (hW : c qw = oW a qw hp) (hB : c (qw + 1) = aI X 9 g) (hqw : qw < 90) (hm : m < 512) : ∀ (d k : Nat), k + d = 9 →
    GW X a m_W_cheapest 1 21 0 0 4 [(0, .ref (a qw)), (1, .int (nI m)), (2, .int (oI (wyGo g hp m k))), (3, .int (nI k))] [] c (pI (eI (oI (wyGo g hp m 9)) c)) := by
  intro d
  induction d with
  | zero =>
    intro k hk
    have e : k = 9 := by omega
    subst e
    refine w_iload_n d_W_cheapest_4 rfl ?_
    refine w_bipush 9 d_W_cheapest_5 (by decide) ?_
    refine w_icmp_ge 62 d_W_cheapest_7 (by decide) (fun _ => ?_) (fun hn => absurd ((nI_leI (a := 9) (b := 9) (by decide) (by decide)).mpr (by omega)) hn)
    refine w_iload_n d_W_cheapest_62 rfl ?_
    exact w_iret d_W_cheapest_63 rfl (⟨_, rfl, rfl, rfl⟩)
  | succ d ih =>
    intro k hk
    have hk9 : k < 9 := by omega
    have key := ih (k + 1) (by omega)
    have hbit := bit_ok m hm k hk9
    have no : ¬ (bit m k = true ∧ ¬ g k = -1 ∧ g k < wyV g hp (wyGo g hp m k)) → wyGo g hp m (k + 1) = wyGo g hp m k := fun z => by rw [wyGo, if_neg z]
    have out : wyGo g hp m (k + 1) = wyGo g hp m k → GW X a m_W_cheapest 1 21 0 0 56 [(0, .ref (a qw)), (1, .int (nI m)), (2, .int (oI (wyGo g hp m k))), (3, .int (nI k)), (4, .int 0)] [] c (pI (eI (oI (wyGo g hp m 9)) c)) := by
      intro e
      rw [e] at key
      first | refine w_iinc _ d_W_cheapest_56 rfl (nIinc _) (by decide) ?_ | refine w_iinc _ d_W_cheapest_56 rfl rfl (by decide) ?_
      refine w_goto 4 d_W_cheapest_59 (by decide) ?_
      exact w_sel [0, 1, 2, 3] rfl key
    refine w_iload_n d_W_cheapest_4 rfl ?_
    refine w_bipush 9 d_W_cheapest_5 (by decide) ?_
    refine w_icmp_ge 62 d_W_cheapest_7 (by decide) (fun hn => absurd hn (fun z => absurd ((nI_leI (a := 9) (by decide) (by omega)).mp z) (by omega))) (fun _ => ?_)
    refine w_iload_n d_W_cheapest_10 rfl ?_
    refine w_iload_n d_W_cheapest_11 rfl ?_
    refine w_ishr d_W_cheapest_12 ?_
    refine w_iconst 1 d_W_cheapest_13 (by decide) ?_
    refine w_iand d_W_cheapest_14 ?_
    rw [hbit]
    refine w_if_eq 32 d_W_cheapest_15 (by decide) (fun hz => ?_) (fun hz => ?_)
    · -- taken
      have nb : ¬ bit m k = true := by unfold bit; intro z; rw [decide_eq_true_eq] at z; rw [z] at hz; exact absurd hz (by decide)
      refine w_iconst 0 d_W_cheapest_32 (by decide) ?_
      refine w_istore d_W_cheapest_33 (by decide) ?_
      refine w_iload d_W_cheapest_35 rfl ?_
      refine w_if_eq 56 d_W_cheapest_37 (by decide) (fun _ => ?_) (fun hn => absurd (rfl) hn)
      exact out (no (fun z => nb z.1))
    · -- not taken
      have hb : bit m k = true := by unfold bit; rw [decide_eq_true_eq]; have : m / 2 ^ k % 2 = 0 ∨ m / 2 ^ k % 2 = 1 := by omega
                                     rcases this with e | e; rw [e] at hz; exact absurd rfl hz; exact e
      refine w_aload_n d_W_cheapest_18 rfl ?_
      refine w_getf g_W_9 d_W_cheapest_19 hW rfl (by omega) ?_
      refine w_iload_n d_W_cheapest_22 rfl ?_
      refine w_iald d_W_cheapest_23 hB rfl hk9 (by decide) (by omega) ?_
      refine w_iconst (-1) d_W_cheapest_24 (by decide) ?_
      refine w_icmp_eq 32 d_W_cheapest_25 (by decide) (fun hn => ?_) (fun hn => ?_)
      · -- taken
        refine w_iconst 0 d_W_cheapest_32 (by decide) ?_
        refine w_istore d_W_cheapest_33 (by decide) ?_
        refine w_iload d_W_cheapest_35 rfl ?_
        refine w_if_eq 56 d_W_cheapest_37 (by decide) (fun _ => ?_) (fun hn => absurd (rfl) hn)
        exact out (no (fun z => z.2.1 hn))
      · -- not taken
        refine w_iconst 1 d_W_cheapest_28 (by decide) ?_
        refine w_goto 33 d_W_cheapest_29 (by decide) ?_
        refine w_istore d_W_cheapest_33 (by decide) ?_
        refine w_iload d_W_cheapest_35 rfl ?_
        refine w_if_eq 56 d_W_cheapest_37 (by decide) (fun hn => absurd hn ((by decide))) (fun _ => ?_)
        refine w_aload_n d_W_cheapest_40 rfl ?_
        refine w_getf g_W_9 d_W_cheapest_41 hW rfl (by omega) ?_
        refine w_iload_n d_W_cheapest_44 rfl ?_
        refine w_iald d_W_cheapest_45 hB rfl hk9 (by decide) (by omega) ?_
        refine w_aload_n d_W_cheapest_46 rfl ?_
        refine w_iload_n d_W_cheapest_47 rfl ?_
        refine w_vI [_] c_W_43 d_W_cheapest_48 rfl hW (by omega) (w_at (o := wyGo g hp m k) hW hB hqw (fun j hj => by have := wyGo_lt hj; omega)) (fun x w hw => ?_) rfl rfl (gq rfl) (gq rfl) (gq rfl) (gq rfl) (gq rfl) (gq rfl)
        obtain ⟨rfl, rfl⟩ := hw
        refine w_icmp_ge 56 d_W_cheapest_51 (by decide) (fun hl => ?_) (fun hl => ?_)
        · -- taken
          have e := no (fun z => absurd z.2.2 (Int32.not_lt.mpr hl))
          rw [e] at key
          first | refine w_iinc _ d_W_cheapest_56 rfl (nIinc _) (by decide) ?_ | refine w_iinc _ d_W_cheapest_56 rfl rfl (by decide) ?_
          refine w_goto 4 d_W_cheapest_59 (by decide) ?_
          exact w_sel [0, 1, 2, 3] rfl key
        · -- not taken
          have e : wyGo g hp m (k + 1) = some k := by rw [wyGo, if_pos ⟨hb, hn, Int32.not_le.mp hl⟩]
          rw [e] at key
          refine w_iload_n d_W_cheapest_54 rfl ?_
          refine w_istore_n d_W_cheapest_55 (by decide) ?_
          first | refine w_iinc _ d_W_cheapest_56 rfl (nIinc _) (by decide) ?_ | refine w_iinc _ d_W_cheapest_56 rfl rfl (by decide) ?_
          refine w_goto 4 d_W_cheapest_59 (by decide) ?_
          exact w_sel [0, 1, 2, 3] rfl key
theorem w_cheapest {qw m : Nat} {hp : Int32} {g : Nat → Int32} (hW : c qw = oW a qw hp) (hB : c (qw + 1) = aI X 9 g) (hqw : qw < 90) (hm : m < 512) : GW X a m_W_cheapest 1 21 0 0 0 (lv_args 0 [.ref (a qw), .int (nI m)]) [] c (pI (eI (oI (wyGo g hp m 9)) c)) := by
  refine w_iconst (-1) d_W_cheapest_0 (by decide) ?_
  refine w_istore_n d_W_cheapest_1 (by decide) ?_
  refine w_iconst 0 d_W_cheapest_2 (by decide) ?_
  refine w_istore_n d_W_cheapest_3 (by decide) ?_
  exact w_chGo hW hB hqw hm 9 0 rfl
theorem w_least {qw m : Nat} {hp : Int32} {g : Nat → Int32} (hW : c qw = oW a qw hp) (hB : c (qw + 1) = aI X 9 g) (hqw : qw < 90) (hm : m < 512) : GW X a m_W_least 2 45 0 0 0 (lv_args 0 [.ref (a qw), .int (nI m)]) [] c (pI (eI (wyV g hp (wyGo g hp m 9)) c)) := by
  refine w_aload_n d_W_least_0 rfl ?_
  refine w_aload_n d_W_least_1 rfl ?_
  refine w_iload_n d_W_least_2 rfl ?_
  refine w_vI [_] c_W_47 d_W_least_3 rfl hW (by omega) (w_cheapest hW hB hqw hm) (fun x w hw => ?_) rfl rfl (gq rfl) (gq rfl) (gq rfl) (gq rfl) (gq rfl) (gq rfl)
  obtain ⟨rfl, rfl⟩ := hw
  refine w_vI [_] c_W_43 d_W_least_6 rfl hW (by omega) (w_at (o := wyGo g hp m 9) hW hB hqw (fun j hj => wyGo_lt hj)) (fun x w hw => ?_) rfl rfl (gq rfl) (gq rfl) (gq rfl) (gq rfl) (gq rfl) (gq rfl)
  obtain ⟨rfl, rfl⟩ := hw
  exact w_iret d_W_least_9 rfl (⟨_, rfl, rfl, rfl⟩)
end WC
