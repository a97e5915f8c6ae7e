/-! Stretch.place, lay and the figures that are read off it -/
-- what Stretch holds once a stretch is laid: rows ahead, rows inside
def stL (X : gX) (a : Nat → Nat) (c : Nat → va_E) (f g : Int32) (sc : Bool) (bf : Nat) (l : List Nat) : Prop := c 8 = oS a f g sc bf ∧ c 9 = oR a 9 l.length ∧ ∃ fr, c 10 = aI X 64 fr ∧ lay fr 0 l
-- what it holds at any time
def stA (X : gX) (a : Nat → Nat) (c : Nat → va_E) : Prop := ∃ f g sc bf n fr, c 8 = oS a f g sc bf ∧ c 9 = oR a 9 n ∧ c 10 = aI X 64 fr
theorem stL.any {X : gX} {a : Nat → Nat} {c : Nat → va_E} {f g : Int32} {sc : Bool} {bf : Nat} {l : List Nat} (h : stL X a c f g sc bf l) : stA X a c := by
  obtain ⟨h1, h2, fr, h3, -⟩ := h
  exact ⟨f, g, sc, bf, l.length, fr, h1, h2, h3⟩
theorem cnd.same {X : gX} {a : Nat → Nat} {c w : Nat → va_E} {q : Nat} {K F T : Nat → Int32} {l : List Nat} (h : cnd X a c q K F T) (hs : same c w l) (hq : q ∉ l ∧ q + 1 ∉ l ∧ q + 2 ∉ l ∧ q + 3 ∉ l) : cnd X a w q K F T :=
  ⟨(hs _ hq.1).trans h.1, (hs _ hq.2.1).trans h.2.1, (hs _ hq.2.2.1).trans h.2.2.1, (hs _ hq.2.2.2).trans h.2.2.2⟩
def lvT (bf cnt : Nat) : Nat := if cnt = 0 then 1 else (bf + cnt - 1) / 4 - bf / 4 + 1
theorem nI_div4 {n : Nat} (h : n < 1000) : nI n / 4 = nI (n / 4) := by
  rw [show (4 : Int32) = nI 4 from rfl, pk_div (by omega) (by decide) (by decide)]
theorem gtv_swo (v : Nat → Int32) (f g : Int32) : swo (gtv v f g) := by
  have key : ∀ x y, gtv v f g x y = true ↔ ((colV v y f).toInt < (colV v x f).toInt ∨ ((colV v x f).toInt = (colV v y f).toInt ∧ (colV v y g).toInt < (colV v x g).toInt)) := by
    intro x y
    simp only [gtv, Bool.or_eq_true, Bool.and_eq_true, decide_eq_true_eq, Int32.lt_iff_toInt_lt, Int32.toInt_inj]
  have key2 : ∀ x y, gtv v f g x y = false ↔ ¬ ((colV v y f).toInt < (colV v x f).toInt ∨ ((colV v x f).toInt = (colV v y f).toInt ∧ (colV v y g).toInt < (colV v x g).toInt)) := by
    intro x y
    rw [← key, Bool.not_eq_true]
  refine ⟨fun x y h => ?_, fun x y z h1 h2 => ?_⟩
  · rw [key] at h
    rw [key2]
    omega
  · rw [key2] at h1 h2 ⊢
    omega
section LY
variable {X : gX} {a : Nat → Nat} {c : Nat → va_E} {ins rt : Nat} {v h : Nat → Int32} {K F T : Nat → Int32} {q : Nat}
theorem c_bindsX {j : Nat} {x : Int32} (hx : x = nI j) (hC : cnd X a c q K F T) (hq : q < 90) (hj : j < 3) : GW X a m_C_binds 0 0 0 0 0 (lv_args 0 [.ref (a q), .int x]) [] c (pI (eI (bI (decide (¬ K j = 0))) c)) := by
  subst hx
  exact c_binds hC hq hj
theorem s_place {jf r bf : Nat} {g : Int32} {sc : Bool} {l : List Nat} (hL : stL X a c (nI jf) g sc bf l) (hT : c 1 = oT a ins rt) (hV : c 2 = aI X 192 v) (hC : cnd X a c q K F T) (hq : q < 90) (hr : r < 64) (hjf : jf < 3) (hsc : sc = true → ∃ j, j < 3 ∧ g = nI j) (hl : l.length < 64) :
    GW X a m_S_place 2 46 0 0 0 (lv_args 0 [.ref (a 8), .ref (a q), .int (nI r)]) [] c (pV (fun w => stL X a w (nI jf) g sc (if befB v F (nI jf) g sc r then bf + 1 else bf) (if !befB v F (nI jf) g sc r && insB K F T v (nI jf) g sc r then l ++ [r] else l) ∧ same c w [8, 9, 10])) := by
  have hL0 := hL
  obtain ⟨hS, hR, fr, hF, hlay⟩ := hL
  refine w_aload_n d_S_place_0 rfl ?_
  refine w_aload_n d_S_place_1 rfl ?_
  refine w_iload_n d_S_place_2 rfl ?_
  refine w_vI [_, _] c_S_68 d_S_place_3 rfl hS (by decide) (s_isBefore hS hT hV hC hq hr hjf hsc) (fun x w hw => ?_) rfl rfl (gq rfl) (gq rfl) (gq rfl) (gq rfl) (gq rfl) (gq rfl)
  obtain ⟨rfl, rfl⟩ := hw
  refine w_if_eq 22 d_S_place_6 (by decide) (fun hb => ?_) (fun hb => ?_)
  · -- taken
    have hb' := bI_t.mp hb
    rw [hb']
    refine w_aload_n d_S_place_22 rfl ?_
    refine w_aload_n d_S_place_23 rfl ?_
    refine w_iload_n d_S_place_24 rfl ?_
    refine w_vI [_, _] c_S_72 d_S_place_25 rfl hS (by decide) (s_isInside hS hT hV hC hq hr hjf hsc) (fun x w hw => ?_) rfl rfl (gq rfl) (gq rfl) (gq rfl) (gq rfl) (gq rfl) (gq rfl)
    obtain ⟨rfl, rfl⟩ := hw
    refine w_if_eq 39 d_S_place_28 (by decide) (fun hi => ?_) (fun hi => ?_)
    · -- taken
      have hi' := bI_t.mp hi
      exact w_vret d_S_place_39 rfl (⟨rfl, by rw [hi']; exact ⟨hL0, same_rf⟩⟩)
    · -- not taken
      have hi' := bI_n.mp hi
      refine w_aload_n d_S_place_31 rfl ?_
      refine w_getf g_S_12 d_S_place_32 hS rfl (by decide) ?_
      refine w_iload_n d_S_place_35 rfl ?_
      refine w_vV [_] c_S_75 d_S_place_36 rfl hR (by decide) (r_append (r := r) hR hF hl (by decide)) (fun w hw => ?_) rfl rfl (gq rfl) (gq rfl) (gq rfl) (gq rfl) (gq rfl) (gq rfl)
      subst hw
      exact w_vret d_S_place_39 rfl (⟨rfl, by rw [hi']; exact ⟨⟨hS, by simp [va_up], upd fr l.length (nI r), rfl, lay_app.mpr ⟨lay_upd hlay (Or.inr (by omega)), lay_one.mpr (by rw [Nat.zero_add]; exact pk_us)⟩⟩, same_trans (same_up (by simp)) (same_up (by simp))⟩⟩)
  · -- not taken
    have hb' := bI_n.mp hb
    rw [hb']
    refine w_aload_n d_S_place_9 rfl ?_
    refine w_dup d_S_place_10 rfl ?_
    refine w_getf g_S_49 d_S_place_11 hS rfl (by decide) ?_
    refine w_iconst 1 d_S_place_14 (by decide) ?_
    refine w_iadd d_S_place_15 ?_
    rw [nI_1]
    refine w_putf p_S_49 d_S_place_16 hS rfl rfl (gqL rfl) (by decide) ?_
    refine w_goto 39 d_S_place_19 (by decide) ?_
    exact w_vret d_S_place_39 rfl (⟨rfl, ⟨rfl, hR, fr, hF, hlay⟩, same_up (by simp)⟩)
theorem s_layGo {i : Nat} (hi9 : i < 9) (hi : ins ≤ 64) (hq : q < 90) (hq2 : q + 3 < 8 ∨ 10 < q) : ∀ (d k : Nat) (c : Nat → va_E), k + d = ins → c 1 = oT a ins rt → c 2 = aI X 192 v → c 3 = aZ X 64 h → cnd X a c q K F T →
    stL X a c (nI (fN i)) (scol i) (secB K i) (((liveL h k).filter (stB v F K i)).length) ((liveL h k).filter (stI v K F T i)) →
    GW X a m_S_lay 3 68 0 0 74 [(0, .ref (a 8)), (1, .ref (a q)), (2, .int (nI i)), (3, .int (nI k))] [] c (pV (fun w => stL X a w (nI (fN i)) (scol i) (secB K i) (((liveL h ins).filter (stB v F K i)).length) ((liveL h ins).filter (stI v K F T i)) ∧ same c w [8, 9, 10])) := by
  intro d
  induction d with
  | zero =>
    intro k c hk hT hV hH hC hL
    have e : k = ins := by omega
    subst e
    refine w_iload_n d_S_lay_74 rfl ?_
    refine w_aload_n d_S_lay_75 rfl ?_
    refine w_getf g_S_18 d_S_lay_76 hL.1 rfl (by decide) ?_
    refine w_getf g_S_55 d_S_lay_79 hT rfl (by decide) ?_
    refine w_icmp_ge 109 d_S_lay_82 (by decide) (fun _ => ?_) (fun hn => absurd ((nI_leI (by omega) (by omega)).mpr (by omega)) hn)
    exact w_vret d_S_lay_109 rfl (⟨rfl, hL, same_rf⟩)
  | succ d ih =>
    intro k c hk hT hV hH hC hL
    have hle : ((liveL h k).filter (stI v K F T i)).length < 64 := by
      have h1 := List.length_filter_le (stI v K F T i) (liveL h k)
      have h2 := liveL_len h k
      omega
    refine w_iload_n d_S_lay_74 rfl ?_
    refine w_aload_n d_S_lay_75 rfl ?_
    refine w_getf g_S_18 d_S_lay_76 hL.1 rfl (by decide) ?_
    refine w_getf g_S_55 d_S_lay_79 hT rfl (by decide) ?_
    refine w_icmp_ge 109 d_S_lay_82 (by decide) (fun hn => absurd hn (fun z => absurd ((nI_leI (by omega) (by omega)).mp z) (by omega))) (fun _ => ?_)
    refine w_aload_n d_S_lay_85 rfl ?_
    refine w_getf g_S_18 d_S_lay_86 hL.1 rfl (by decide) ?_
    refine w_getf g_S_60 d_S_lay_89 hT rfl (by decide) ?_
    refine w_iload_n d_S_lay_92 rfl ?_
    refine w_zald d_S_lay_93 hH rfl (by omega) (by decide) (by decide) ?_
    refine w_if_eq 103 d_S_lay_94 (by decide) (fun hz => ?_) (fun hz => ?_)
    · -- taken
      have e := liveL_s (h := h) (k := k)
      rw [if_pos hz] at e
      first | refine w_iinc _ d_S_lay_103 rfl (nIinc _) (by decide) ?_ | refine w_iinc _ d_S_lay_103 rfl rfl (by decide) ?_
      refine w_goto 74 d_S_lay_106 (by decide) ?_
      exact ih (k + 1) c (by omega) hT hV hH hC (by rw [e]; exact hL)
    · -- not taken
      have e := liveL_s (h := h) (k := k)
      rw [if_neg hz] at e
      refine w_aload_n d_S_lay_97 rfl ?_
      refine w_aload_n d_S_lay_98 rfl ?_
      refine w_iload_n d_S_lay_99 rfl ?_
      refine w_vV [_, _] c_S_64 d_S_lay_100 rfl hL.1 (by decide) (s_place (r := k) hL hT hV hC hq (by omega) (fN_lt hi9) (fun z => secB_col hi9 z) hle) (fun w hw => ?_) rfl rfl (gq rfl) (gq rfl) (gq rfl) (gq rfl) (gq rfl) (gq rfl)
      obtain ⟨hL', hs⟩ := hw
      first | refine w_iinc _ d_S_lay_103 rfl (nIinc _) (by decide) ?_ | refine w_iinc _ d_S_lay_103 rfl rfl (by decide) ?_
      refine w_goto 74 d_S_lay_106 (by decide) ?_
      have hC' : cnd X a w q K F T := hC.same hs (by simp; omega)
      refine w_post (fun r w' hw' => ?_) (ih (k + 1) w (by omega) ((hs 1 (by decide)).trans hT) ((hs 2 (by decide)).trans hV) ((hs 3 (by decide)).trans hH) hC' ?_)
      · exact ⟨hw'.1, hw'.2.1, same_trans hs hw'.2.2⟩
      · rw [e, List.filter_append, List.filter_append, List.length_append]
        have e1 : (if stB v F K i k then ((liveL h k).filter (stB v F K i)).length + 1 else ((liveL h k).filter (stB v F K i)).length) = ((liveL h k).filter (stB v F K i)).length + ([k].filter (stB v F K i)).length := by by_cases hb : stB v F K i k = true <;> simp [hb]
        have e2 : (if stI v K F T i k then (liveL h k).filter (stI v K F T i) ++ [k] else (liveL h k).filter (stI v K F T i)) = (liveL h k).filter (stI v K F T i) ++ [k].filter (stI v K F T i) := by by_cases hb : stI v K F T i k = true <;> simp [hb]
        rw [← e1, ← e2]
        exact hL'
theorem s_lay2 {i bf n : Nat} {fr : Nat → Int32} {sc0 : Bool} (hi9 : i < 9) (hi : ins ≤ 64) (hq : q < 90) (hq2 : q + 3 < 8 ∨ 10 < q) (hT : c 1 = oT a ins rt) (hV : c 2 = aI X 192 v) (hH : c 3 = aZ X 64 h) (hC : cnd X a c q K F T)
    (hS : c 8 = oS a (nI (fN i)) (scol i) sc0 bf) (hR : c 9 = oR a 9 n) (hF : c 10 = aI X 64 fr) :
    GW X a m_S_lay 3 68 0 0 56 [(0, .ref (a 8)), (1, .ref (a q)), (2, .int (nI i))] [.int (bI (secB K i)), .ref (a 8)] c (pV (fun w => stL X a w (nI (fN i)) (scol i) (secB K i) (((liveL h ins).filter (stB v F K i)).length) ((liveL h ins).filter (stI v K F T i)) ∧ same c w [8, 9, 10])) := by
  have hnar : narrow .boolean (.int (bI (secB K i))) = .int (bI (secB K i)) := by cases secB K i <;> decide +kernel
  have hfit : fits .boolean (.int (bI (secB K i))) = true := by cases secB K i <;> decide +kernel
  refine w_putf p_S_45 d_S_lay_56 hS hnar hfit (gqL rfl) (by decide) ?_
  refine w_aload_n d_S_lay_59 rfl ?_
  refine w_iconst 0 d_S_lay_60 (by decide) ?_
  refine w_putf p_S_49 d_S_lay_61 rfl rfl rfl (gqL rfl) (by decide) ?_
  refine w_aload_n d_S_lay_64 rfl ?_
  refine w_getf g_S_12 d_S_lay_65 rfl rfl (by decide) ?_
  refine w_iconst 0 d_S_lay_68 (by decide) ?_
  refine w_putf p_S_52 d_S_lay_69 hR rfl rfl (gqL rfl) (by decide) ?_
  refine w_iconst 0 d_S_lay_72 (by decide) ?_
  refine w_istore_n d_S_lay_73 (by decide) ?_
  have hs : same c (va_up (va_up (va_up c 8 (oS a (nI (fN i)) (scol i) (secB K i) bf)) 8 (oS a (nI (fN i)) (scol i) (secB K i) 0)) 9 (oR a 9 0)) [8, 9, 10] := same_trans (same_trans (same_up (by simp)) (same_up (by simp))) (same_up (by simp))
  refine w_post (fun r w' hw' => ?_) (s_layGo hi9 hi hq hq2 ins 0 _ (by omega) hT hV hH (hC.same hs (by simp; omega)) ⟨rfl, rfl, fr, hF, lay_nil⟩)
  exact ⟨hw'.1, hw'.2.1, same_trans hs hw'.2.2⟩
theorem s_lay {i : Nat} (hi9 : i < 9) (hi : ins ≤ 64) (hq : q < 90) (hq2 : q + 3 < 8 ∨ 10 < q) (hT : c 1 = oT a ins rt) (hV : c 2 = aI X 192 v) (hH : c 3 = aZ X 64 h) (hC : cnd X a c q K F T) (hA : stA X a c) :
    GW X a m_S_lay 3 68 0 0 0 (lv_args 0 [.ref (a 8), .ref (a q), .int (nI i)]) [] c (pV (fun w => stL X a w (nI (fN i)) (scol i) (secB K i) (((liveL h ins).filter (stB v F K i)).length) ((liveL h ins).filter (stI v K F T i)) ∧ same c w [8, 9, 10])) := by
  obtain ⟨f0, g0, sc0, bf0, n0, fr, hS, hR, hF⟩ := hA
  have hs : same c (va_up (va_up c 8 (oS a (nI (fN i)) g0 sc0 bf0)) 8 (oS a (nI (fN i)) (scol i) sc0 bf0)) [8, 9, 10] := same_trans (same_up (by simp)) (same_up (by simp))
  have hC2 : cnd X a (va_up (va_up c 8 (oS a (nI (fN i)) g0 sc0 bf0)) 8 (oS a (nI (fN i)) (scol i) sc0 bf0)) q K F T := hC.same hs (by simp; omega)
  have key0 := s_lay2 (X := X) (a := a) (c := va_up (va_up c 8 (oS a (nI (fN i)) g0 sc0 bf0)) 8 (oS a (nI (fN i)) (scol i) sc0 bf0)) hi9 hi hq hq2 hT hV hH hC2 rfl hR hF
  have key : ∀ z : Int32, z = bI (secB K i) → GW X a m_S_lay 3 68 0 0 56 [(0, .ref (a 8)), (1, .ref (a q)), (2, .int (nI i))] [.int z, .ref (a 8)] (va_up (va_up c 8 (oS a (nI (fN i)) g0 sc0 bf0)) 8 (oS a (nI (fN i)) (scol i) sc0 bf0)) (pV (fun w => stL X a w (nI (fN i)) (scol i) (secB K i) (((liveL h ins).filter (stB v F K i)).length) ((liveL h ins).filter (stI v K F T i)) ∧ same (va_up (va_up c 8 (oS a (nI (fN i)) g0 sc0 bf0)) 8 (oS a (nI (fN i)) (scol i) sc0 bf0)) w [8, 9, 10])) := by
    rintro z rfl
    exact key0
  refine w_post (Post' := pV (fun w => stL X a w (nI (fN i)) (scol i) (secB K i) (((liveL h ins).filter (stB v F K i)).length) ((liveL h ins).filter (stI v K F T i)) ∧ same (va_up (va_up c 8 (oS a (nI (fN i)) g0 sc0 bf0)) 8 (oS a (nI (fN i)) (scol i) sc0 bf0)) w [8, 9, 10])) (fun r w' hw' => ⟨hw'.1, hw'.2.1, same_trans hs hw'.2.2⟩) ?_
  have hf3 := fN_lt hi9
  refine w_aload_n d_S_lay_0 rfl ?_
  refine g_get1 (Or.inr ⟨_, w_322⟩) d_S_lay_1 ?_
  refine w_iload_n d_S_lay_4 rfl ?_
  refine w_ald1 d_S_lay_5 rfl hi9 ?_
  rw [fN_col hi9]
  refine w_putf p_S_26 d_S_lay_6 hS rfl rfl (gqL rfl) (by decide) ?_
  refine w_aload_n d_S_lay_9 rfl ?_
  refine g_get2 (Or.inr ⟨_, w_323⟩) d_S_lay_10 ?_
  refine w_iload_n d_S_lay_13 rfl ?_
  refine w_ald2 d_S_lay_14 rfl hi9 ?_
  rw [show (([-1, -1, -1, 1, 2, 0, 2, 0, 1] : List Int32).getD i 0) = scol i from rfl]
  refine w_putf p_S_33 d_S_lay_15 rfl rfl rfl (gqL rfl) (by decide) ?_
  refine w_aload_n d_S_lay_18 rfl ?_
  refine w_aload_n d_S_lay_19 rfl ?_
  refine w_getf g_S_33 d_S_lay_20 rfl rfl (by decide) ?_
  refine w_iconst (-1) d_S_lay_23 (by decide) ?_
  refine w_icmp_eq 55 d_S_lay_24 (by decide) (fun hz => ?_) (fun hz => ?_)
  · -- taken
    have hsc : secB K i = false := by unfold secB; rw [decide_eq_false (fun z => z hz)]; rfl
    refine w_iconst 0 d_S_lay_55 (by decide) ?_
    exact key _ (by rw [hsc]; rfl)
  · -- not taken
    refine w_aload_n d_S_lay_27 rfl ?_
    refine w_getf g_S_36 d_S_lay_28 hC2.1 rfl (by omega) ?_
    refine w_aload_n d_S_lay_31 rfl ?_
    refine w_getf g_S_26 d_S_lay_32 rfl rfl (by decide) ?_
    refine w_iald d_S_lay_35 hC2.2.1 rfl hf3 (by decide) (by omega) ?_
    refine w_iconst 1 d_S_lay_36 (by decide) ?_
    refine w_icmp_ne 55 d_S_lay_37 (by decide) (fun hk => ?_) (fun hk => ?_)
    · -- taken
      have hsc : secB K i = false := by unfold secB; rw [decide_eq_false hk, decide_eq_true hz]; rfl
      refine w_iconst 0 d_S_lay_55 (by decide) ?_
      exact key _ (by rw [hsc]; rfl)
    · -- not taken
      rcases scol_col hi9 with e | ⟨jg, hjg, e⟩
      · -- case
        exact absurd e hz
      · -- case
        refine w_aload_n d_S_lay_40 rfl ?_
        refine w_aload_n d_S_lay_41 rfl ?_
        refine w_getf g_S_33 d_S_lay_42 rfl rfl (by decide) ?_
        refine w_vI [_] c_S_41 d_S_lay_45 rfl hC2.1 (by omega) (c_bindsX e hC2 hq hjg) (fun x w hw => ?_) rfl rfl (gq rfl) (gq rfl) (gq rfl) (gq rfl) (gq rfl) (gq rfl)
        obtain ⟨rfl, rfl⟩ := hw
        refine w_if_eq 55 d_S_lay_48 (by decide) (fun hb => ?_) (fun hb => ?_)
        · -- taken
          have hsc : secB K i = false := by unfold secB; rw [decide_eq_true hz, decide_eq_true hk, e, nI_c hjg, bI_t.mp hb]; rfl
          refine w_iconst 0 d_S_lay_55 (by decide) ?_
          exact key _ (by rw [hsc]; rfl)
        · -- not taken
          have hsc : secB K i = true := by unfold secB; rw [decide_eq_true hz, decide_eq_true hk, e, nI_c hjg, bI_n.mp hb]; rfl
          refine w_iconst 1 d_S_lay_51 (by decide) ?_
          refine w_goto 56 d_S_lay_52 (by decide) ?_
          exact key _ (by rw [hsc]; rfl)
theorem s_firstLeaf {f g : Int32} {sc : Bool} {bf : Nat} (hS : c 8 = oS a f g sc bf) (hT : c 1 = oT a ins rt) (hb : bf ≤ 64) (hi : rt ≤ 64) : GW X a m_S_firstLeaf 2 41 0 0 0 (lv_args 0 [.ref (a 8)]) [] c (pI (eI (nI (if bf / 4 < leavesOf rt then bf / 4 else leavesOf rt - 1)) c)) := by
  have hl := leaves_le hi
  have e1 : nI (leavesOf rt) - 1 = nI (leavesOf rt - 1) := by rw [show leavesOf rt = (leavesOf rt - 1) + 1 by omega, nI_pred]; rfl
  have e2 : (if nI (leavesOf rt - 1) < nI (bf / 4) then nI (leavesOf rt - 1) else nI (bf / 4)) = nI (if bf / 4 < leavesOf rt then bf / 4 else leavesOf rt - 1) := by
    by_cases h1 : leavesOf rt - 1 < bf / 4
    · rw [if_pos (nI_lt h1 (by omega)), if_neg (by omega)]
    · rw [if_neg (nI_nlt (by omega) (by omega)), if_pos (by omega)]
  refine w_aload_n d_S_firstLeaf_0 rfl ?_
  refine w_getf g_S_49 d_S_firstLeaf_1 hS rfl (by decide) ?_
  refine w_iconst 4 d_S_firstLeaf_4 (by decide) ?_
  refine w_idiv d_S_firstLeaf_5 (by decide) ?_
  rw [nI_div4 (by omega)]
  refine w_aload_n d_S_firstLeaf_6 rfl ?_
  refine w_getf g_S_18 d_S_firstLeaf_7 hS rfl (by decide) ?_
  refine w_vI [] c_S_94 d_S_firstLeaf_10 rfl hT (by decide) (t_indexLeaves hT hi) (fun x w hw => ?_) rfl rfl (gq rfl) (gq rfl) (gq rfl) (gq rfl) (gq rfl) (gq rfl)
  obtain ⟨rfl, rfl⟩ := hw
  refine w_iconst 1 d_S_firstLeaf_13 (by decide) ?_
  refine w_isub d_S_firstLeaf_14 ?_
  rw [e1]
  refine w_mmin w_419 d_S_firstLeaf_15 (gq rfl) (gq rfl) ?_
  exact w_iret d_S_firstLeaf_18 rfl (⟨_, rfl, e2.symm, rfl⟩)
theorem s_leaves {f g : Int32} {sc : Bool} {bf n : Nat} (hS : c 8 = oS a f g sc bf) (hR : c 9 = oR a 9 n) (hb : bf ≤ 64) (hn : n ≤ 64) : GW X a m_S_leaves 0 0 0 0 0 (lv_args 0 [.ref (a 8)]) [] c (pI (eI (nI (lvT bf n)) c)) := by
  refine w_aload_n d_S_leaves_0 rfl ?_
  refine w_getf g_S_12 d_S_leaves_1 hS rfl (by decide) ?_
  refine w_getf g_S_52 d_S_leaves_4 hR rfl (by decide) ?_
  refine w_if_ne 12 d_S_leaves_7 (by decide) (fun hz => ?_) (fun hz => ?_)
  · -- taken
    have hn0 : ¬ n = 0 := fun z => hz (by rw [z]; rfl)
    have e1 : nI (bf + n) - 1 = nI (bf + n - 1) := by rw [show bf + n = (bf + n - 1) + 1 by omega, nI_pred]; rfl
    refine w_aload_n d_S_leaves_12 rfl ?_
    refine w_getf g_S_49 d_S_leaves_13 hS rfl (by decide) ?_
    refine w_aload_n d_S_leaves_16 rfl ?_
    refine w_getf g_S_12 d_S_leaves_17 hS rfl (by decide) ?_
    refine w_getf g_S_52 d_S_leaves_20 hR rfl (by decide) ?_
    refine w_iadd d_S_leaves_23 ?_
    rw [nI_add]
    refine w_iconst 1 d_S_leaves_24 (by decide) ?_
    refine w_isub d_S_leaves_25 ?_
    rw [e1]
    refine w_iconst 4 d_S_leaves_26 (by decide) ?_
    refine w_idiv d_S_leaves_27 (by decide) ?_
    rw [nI_div4 (by omega)]
    refine w_aload_n d_S_leaves_28 rfl ?_
    refine w_getf g_S_49 d_S_leaves_29 hS rfl (by decide) ?_
    refine w_iconst 4 d_S_leaves_32 (by decide) ?_
    refine w_idiv d_S_leaves_33 (by decide) ?_
    rw [nI_div4 (by omega)]
    refine w_isub d_S_leaves_34 ?_
    rw [pk_sub (by omega)]
    refine w_iconst 1 d_S_leaves_35 (by decide) ?_
    refine w_iadd d_S_leaves_36 ?_
    rw [nI_1]
    exact w_iret d_S_leaves_37 rfl (⟨_, rfl, by unfold lvT; rw [if_neg hn0], rfl⟩)
  · -- not taken
    have hn0 : n = 0 := (nI_eq (by omega) (by decide)).mp hz
    refine w_iconst 1 d_S_leaves_10 (by decide) ?_
    exact w_iret d_S_leaves_11 rfl (⟨_, rfl, by unfold lvT; rw [if_pos hn0]; rfl, rfl⟩)
theorem s_pages {f g : Int32} {sc : Bool} {bf n : Nat} (hS : c 8 = oS a f g sc bf) (hR : c 9 = oR a 9 n) (hT : c 1 = oT a ins rt) (hb : bf ≤ 64) (hn : n ≤ 64) (hi : rt ≤ 64) : GW X a m_S_pages 3 63 0 0 0 (lv_args 0 [.ref (a 8)]) [] c (pI (eI (nI (hgt (leavesOf rt) + lvT bf n + n)) c)) := by
  refine w_aload_n d_S_pages_0 rfl ?_
  refine w_getf g_S_18 d_S_pages_1 hS rfl (by decide) ?_
  refine w_vI [] c_S_103 d_S_pages_4 rfl hT (by decide) (t_indexHeight hT hi) (fun x w hw => ?_) rfl rfl (gq rfl) (gq rfl) (gq rfl) (gq rfl) (gq rfl) (gq rfl)
  obtain ⟨rfl, rfl⟩ := hw
  refine w_aload_n d_S_pages_7 rfl ?_
  refine w_vI [] c_S_106 d_S_pages_8 rfl hS (by decide) (s_leaves hS hR hb hn) (fun x w hw => ?_) rfl rfl (gq rfl) (gq rfl) (gq rfl) (gq rfl) (gq rfl) (gq rfl)
  obtain ⟨rfl, rfl⟩ := hw
  refine w_iadd d_S_pages_11 ?_
  rw [nI_add]
  refine w_aload_n d_S_pages_12 rfl ?_
  refine w_getf g_S_12 d_S_pages_13 hS rfl (by decide) ?_
  refine w_getf g_S_52 d_S_pages_16 hR rfl (by decide) ?_
  refine w_iadd d_S_pages_19 ?_
  rw [nI_add]
  exact w_iret d_S_pages_20 rfl (⟨_, rfl, rfl, rfl⟩)
theorem s_sort {f g : Int32} {sc : Bool} {bf : Nat} {l : List Nat} (hL : stL X a c f g sc bf l) (hT : c 1 = oT a ins rt) (hV : c 2 = aI X 192 v) (hn : l.length ≤ 64) (hl : ∀ x ∈ l, x < 64) (hf : isCol f) (hg : isCol g) :
    GW X a m_S_sort 4 96 0 0 0 (lv_args 0 [.ref (a 8)]) [] c (pV (fun w => stL X a w f g sc bf (srt (gtv v f g) l).reverse ∧ same c w [10])) := by
  obtain ⟨hS, hR, fr, hF, hlay⟩ := hL
  refine w_aload_n d_S_sort_0 rfl ?_
  refine w_getf g_S_12 d_S_sort_1 hS rfl (by decide) ?_
  refine w_aload_n d_S_sort_4 rfl ?_
  refine w_getf g_S_18 d_S_sort_5 hS rfl (by decide) ?_
  refine w_aload_n d_S_sort_8 rfl ?_
  refine w_getf g_S_26 d_S_sort_9 hS rfl (by decide) ?_
  refine w_aload_n d_S_sort_12 rfl ?_
  refine w_getf g_S_33 d_S_sort_13 hS rfl (by decide) ?_
  refine w_vV [_, _, _] c_S_90 d_S_sort_16 rfl hR (by decide) (r_sort hT hV hR hF (by decide) (by decide) rfl hn hl hf hg hlay) (fun w hw => ?_) rfl rfl (gq rfl) (gq rfl) (gq rfl) (gq rfl) (gq rfl) (gq rfl)
  obtain ⟨f', rfl, hl'⟩ := hw
  exact w_vret d_S_sort_19 rfl (⟨rfl, ⟨hS, by rw [List.length_reverse, srt_len (gtv_swo v f g)]; exact hR, f', rfl, hl'⟩, same_up (by simp)⟩)
end LY
