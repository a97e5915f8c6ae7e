/-! SelfArranger.ask; the class's whole state -/
def idxT (h v K F T : Nat → Int32) (ins rt i : Nat) : List TP := downT i (flf (bfI h v K F ins i) rt) (hgt (leavesOf rt)) ++ (leafT i (flf (bfI h v K F ins i) rt) (lvT (bfI h v K F ins i) (inI h v K F T ins i).length) ++ rowsT (srt (gtv v (nI (fN i)) (scol i)) (inI h v K F T ins i)).reverse)
def askT (h v K F T : Nat → Int32) (ins rt : Nat) : Option Nat → List TP
  | none => heapT (fours ins)
  | some i => idxT h v K F T ins rt i
def wayA (h v K F T s : Nat → Int32) (ins rt : Nat) : Option Nat := wyGo (costX h v K F T ins rt) (nI (fours ins)) (rdyN s 9) 9
def wcA (h v K F T s : Nat → Int32) (ins rt : Nat) : Int32 := wyV (costX h v K F T ins rt) (nI (fours ins)) (wayA h v K F T s ins rt)
def ansL (h v K F T : Nat → Int32) (ins : Nat) (oc : Int32) (rl : Nat) : List Nat := ((srt (gtv v oc (-1)) ((liveL h ins).filter (fitR K F T v))).reverse).take rl
theorem flf_le {bf n : Nat} (h : n ≤ 64) : flf bf n ≤ 16 := by
  have := leaves_le h
  unfold flf
  split <;> omega
theorem lvT_le {bf n : Nat} (h1 : bf ≤ 64) (h2 : n ≤ 64) : lvT bf n ≤ 64 := by
  unfold lvT
  split <;> omega
theorem same_of {c w : Nat → va_E} {l : List Nat} (h : same c w l) {p : Nat} {e : va_E} (hp : p ∉ l) (he : c p = e) : w p = e := (h p hp).trans he
theorem stA.keep {X : gX} {a : Nat → Nat} {c w : Nat → va_E} (hA : stA X a c) (h8 : w 8 = c 8) (h9 : w 9 = c 9) (h10 : w 10 = c 10) : stA X a w := by
  obtain ⟨f, g, sc, bf, n, fr, k1, k2, k3⟩ := hA
  exact ⟨f, g, sc, bf, n, fr, h8.trans k1, h9.trans k2, h10.trans k3⟩
section AK
variable {X : gX} {a : Nat → Nat} {c : Nat → va_E} {ins rt : Nat} {v h : Nat → Int32} {K F T : Nat → Int32} {nF : Nat} {P : PS} {s : Nat → Int32} {bl : Option Nat} {hd sd : Nat} {oc : Int32} {rl bp : Nat} {lw : Option Nat} {lc : Int32}
theorem a_touchIndex {i : Nat} (hi9 : i < 9) (hA : c 0 = oA a oc rl bp lw lc) (hi : ins ≤ 64) (hrt : rt ≤ 64) (hT : c 1 = oT a ins rt) (hV : c 2 = aI X 192 v) (hH : c 3 = aZ X 64 h) (hC : cnd X a c 4 K F T) (hS : stA X a c) (hn : nF ≤ 16) (hP : pol X a c nF P) (hh : P.2.2.1 < nF) :
    GW X a m_A_touchIndex 5 116 0 0 0 (lv_args 0 [.ref (a 0), .int (nI i)]) [] c (pV (fun w => pol X a w nF (tchL nF (idxT h v K F T ins rt i) P) ∧ stA X a w ∧ same c w [8, 9, 10, 13, 14, 15])) := by
  have hbf : bfI h v K F ins i ≤ 64 := filter_len_le hi
  have hin : (inI h v K F T ins i).length ≤ 64 := filter_len_le hi
  have hin64 : ∀ x ∈ inI h v K F T ins i, x < 64 := fun x hx => by have := liveL_lt (List.mem_filter.mp hx).1; omega
  have hleaf := flf_le (bf := bfI h v K F ins i) hrt
  have hlv := lvT_le hbf hin
  have hht := hgt_le (leavesOf rt)
  have hA8 : ∃ f g sc bf, c 8 = oS a f g sc bf := by obtain ⟨f, g, sc, bf, n, fr, k1, k2, k3⟩ := hS; exact ⟨f, g, sc, bf, k1⟩
  obtain ⟨f8, g8, sc8, bf8, h8⟩ := hA8
  refine w_aload_n d_A_touchIndex_0 rfl ?_
  refine w_getf g_A_28 d_A_touchIndex_1 hA rfl (by decide) ?_
  refine w_aload_n d_A_touchIndex_4 rfl ?_
  refine w_getf g_A_19 d_A_touchIndex_5 hA rfl (by decide) ?_
  refine w_iload_n d_A_touchIndex_8 rfl ?_
  refine w_vV [_, _] c_A_310 d_A_touchIndex_9 rfl h8 (by decide) (s_lay (q := 4) hi9 hi (by decide) (by decide) hT hV hH hC hS) (fun w hw => ?_) rfl rfl (gq rfl) (gq rfl) (gq rfl) (gq rfl) (gq rfl) (gq rfl)
  obtain ⟨hL, hs⟩ := hw
  have hA1 : w 0 = oA a oc rl bp lw lc := same_of hs (by decide) hA
  have hT1 : w 1 = oT a ins rt := same_of hs (by decide) hT
  have hV1 : w 2 = aI X 192 v := same_of hs (by decide) hV
  have hP1 : pol X a w nF P := ⟨same_of hs (by decide) hP.1, same_of hs (by decide) hP.2.1, same_of hs (by decide) hP.2.2⟩
  refine w_aload_n d_A_touchIndex_12 rfl ?_
  refine w_getf g_A_28 d_A_touchIndex_13 hA1 rfl (by decide) ?_
  refine w_vI [] c_A_314 d_A_touchIndex_16 rfl hL.1 (by decide) (s_firstLeaf hL.1 hT1 hbf hrt) (fun x w hw => ?_) rfl rfl (gq rfl) (gq rfl) (gq rfl) (gq rfl) (gq rfl) (gq rfl)
  obtain ⟨rfl, rfl⟩ := hw
  refine w_istore_n d_A_touchIndex_19 (by decide) ?_
  refine w_aload_n d_A_touchIndex_20 rfl ?_
  refine w_getf g_A_12 d_A_touchIndex_21 hA1 rfl (by decide) ?_
  refine w_vI [] c_A_188 d_A_touchIndex_24 rfl hT1 (by decide) (t_indexHeight hT1 hrt) (fun x w hw => ?_) rfl rfl (gq rfl) (gq rfl) (gq rfl) (gq rfl) (gq rfl) (gq rfl)
  obtain ⟨rfl, rfl⟩ := hw
  refine w_istore_n d_A_touchIndex_27 (by decide) ?_
  refine a_dnGo (leaf := flf (bfI h v K F ins i) rt) (by omega) hn (hgt (leavesOf rt)) w P (by omega) hA1 hP1 hh (fun w2 P2 eP2 hP2 hs2 => ?_)
  have hh2 : P2.2.2.1 < nF := by rw [eP2]; exact tchL_lt hh
  have hA2 : w2 0 = oA a oc rl bp lw lc := same_of hs2 (by decide) hA1
  have hL2 : stL X a w2 (nI (fN i)) (scol i) (secB K i) (bfI h v K F ins i) (inI h v K F T ins i) := ⟨same_of hs2 (by decide) hL.1, same_of hs2 (by decide) hL.2.1, hL.2.2.choose, same_of hs2 (by decide) hL.2.2.choose_spec.1, hL.2.2.choose_spec.2⟩
  refine w_aload_n d_A_touchIndex_53 rfl ?_
  refine w_getf g_A_28 d_A_touchIndex_54 hA2 rfl (by decide) ?_
  refine w_vI [] c_A_320 d_A_touchIndex_57 rfl hL2.1 (by decide) (s_leaves hL2.1 hL2.2.1 hbf hin) (fun x w hw => ?_) rfl rfl (gq rfl) (gq rfl) (gq rfl) (gq rfl) (gq rfl) (gq rfl)
  obtain ⟨rfl, rfl⟩ := hw
  refine w_istore_n d_A_touchIndex_60 (by decide) ?_
  refine w_iconst 0 d_A_touchIndex_61 (by decide) ?_
  refine w_istore d_A_touchIndex_62 (by decide) ?_
  refine a_lfGo (leaf := flf (bfI h v K F ins i) rt) (n := lvT (bfI h v K F ins i) (inI h v K F T ins i).length) (by omega) hn hlv (lvT (bfI h v K F ins i) (inI h v K F T ins i).length) 0 w2 P2 (by omega) hA2 hP2 hh2 (fun w3 P3 eP3 hP3 hs3 => ?_)
  have hh3 : P3.2.2.1 < nF := by rw [eP3]; exact tchL_lt hh2
  have hA3 : w3 0 = oA a oc rl bp lw lc := same_of hs3 (by decide) hA2
  have hL3 : stL X a w3 (nI (fN i)) (scol i) (secB K i) (bfI h v K F ins i) (inI h v K F T ins i) := ⟨same_of hs3 (by decide) hL2.1, same_of hs3 (by decide) hL2.2.1, hL2.2.2.choose, same_of hs3 (by decide) hL2.2.2.choose_spec.1, hL2.2.2.choose_spec.2⟩
  have hT3 : w3 1 = oT a ins rt := same_of hs3 (by decide) (same_of hs2 (by decide) hT1)
  have hV3 : w3 2 = aI X 192 v := same_of hs3 (by decide) (same_of hs2 (by decide) hV1)
  have hfc : isCol (nI (fN i)) := Or.inr ⟨fN i, fN_lt hi9, rfl⟩
  refine w_aload_n d_A_touchIndex_89 rfl ?_
  refine w_getf g_A_28 d_A_touchIndex_90 hA3 rfl (by decide) ?_
  refine w_vV [] c_A_323 d_A_touchIndex_93 rfl hL3.1 (by decide) (s_sort hL3 hT3 hV3 hin hin64 hfc (scol_col hi9)) (fun w hw => ?_) rfl rfl (gq rfl) (gq rfl) (gq rfl) (gq rfl) (gq rfl) (gq rfl)
  obtain ⟨hL4, hs4⟩ := hw
  refine w_iconst 0 d_A_touchIndex_96 (by decide) ?_
  refine w_istore d_A_touchIndex_97 (by decide) ?_
  have hA4 : w 0 = oA a oc rl bp lw lc := same_of hs4 (by decide) hA3
  have hP4 : pol X a w nF P3 := ⟨same_of hs4 (by decide) hP3.1, same_of hs4 (by decide) hP3.2.1, same_of hs4 (by decide) hP3.2.2⟩
  have hlen : (srt (gtv v (nI (fN i)) (scol i)) (inI h v K F T ins i)).reverse.length ≤ 64 := by rw [List.length_reverse, srt_len (gtv_swo _ _ _)]; exact hin
  have hmem : ∀ x ∈ (srt (gtv v (nI (fN i)) (scol i)) (inI h v K F T ins i)).reverse, x < 64 := fun x hx => hin64 x ((srt_mem (gtv_swo _ _ _) _ x).mp (List.mem_reverse.mp hx))
  refine w_post (fun r w' hw' => ?_) (a_rwGo hn hmem hlen (srt (gtv v (nI (fN i)) (scol i)) (inI h v K F T ins i)).reverse.length 0 w P3 (by omega) hA4 hL4 hP4 hh3)
  obtain ⟨e0, e1, e2⟩ := hw'
  refine ⟨e0, ?_, hL4.any.keep (e2 8 (by decide)) (e2 9 (by decide)) (e2 10 (by decide)), fun p hp => ?_⟩
  · rw [idxT, tchL_app, tchL_app, ← eP2]
    have e3 : leafT i (flf (bfI h v K F ins i) rt) (lvT (bfI h v K F ins i) (inI h v K F T ins i).length) = (List.range (lvT (bfI h v K F ins i) (inI h v K F T ins i).length)).map (fun j => (some i, 0, flf (bfI h v K F ins i) rt + (0 + j))) := by simp [leafT]
    rw [e3, ← eP3]
    exact e1
  · simp only [List.mem_cons, List.not_mem_nil, or_false, not_or] at hp
    rw [e2 p (by simp; omega), hs4 p (by simp; omega), hs3 p (by simp; omega), hs2 p (by simp; omega), hs p (by simp; omega)]
theorem a_touchPages (hlw : ∀ i, lw = some i → i < 9) (hA : c 0 = oA a oc rl bp lw lc) (hi : ins ≤ 64) (hrt : rt ≤ 64) (hT : c 1 = oT a ins rt) (hV : c 2 = aI X 192 v) (hH : c 3 = aZ X 64 h) (hC : cnd X a c 4 K F T) (hS : stA X a c) (hn : nF ≤ 16) (hP : pol X a c nF P) (hh : P.2.2.1 < nF) :
    GW X a m_A_touchPages 6 140 0 0 0 (lv_args 0 [.ref (a 0)]) [] c (pV (fun w => pol X a w nF (tchL nF (askT h v K F T ins rt lw) (P.1, P.2.1, P.2.2.1, 0, 0)) ∧ stA X a w ∧ same c w [8, 9, 10, 13, 14, 15])) := by
  refine w_aload_n d_A_touchPages_0 rfl ?_
  refine w_getf g_A_44 d_A_touchPages_1 hA rfl (by decide) ?_
  refine w_vV [] c_A_295 d_A_touchPages_4 rfl hP.1 (by decide) (p_countAnew hP) (fun w hw => ?_) rfl rfl (gq rfl) (gq rfl) (gq rfl) (gq rfl) (gq rfl) (gq rfl)
  obtain ⟨hP1, hs⟩ := hw
  have hA1 : w 0 = oA a oc rl bp lw lc := same_of hs (by decide) hA
  have hC1 : cnd X a w 4 K F T := hC.same hs (by decide)
  have hS1 : stA X a w := hS.keep (hs 8 (by decide)) (hs 9 (by decide)) (hs 10 (by decide))
  refine w_aload_n d_A_touchPages_7 rfl ?_
  refine w_getf g_A_88 d_A_touchPages_8 hA1 rfl (by decide) ?_
  rcases lw with _ | i
  · -- case
    refine w_iconst (-1) d_A_touchPages_11 (by decide) ?_
    refine w_icmp_ne 22 d_A_touchPages_12 (by decide) (fun hn => absurd (rfl) hn) (fun _ => ?_)
    refine w_aload_n d_A_touchPages_15 rfl ?_
    refine w_vV [] c_A_298 d_A_touchPages_16 rfl hA1 (by decide) (a_touchHeap hA1 (same_of hs (by decide) hT) hi hn hP1 hh) (fun w hw => ?_) rfl rfl (gq rfl) (gq rfl) (gq rfl) (gq rfl) (gq rfl) (gq rfl)
    obtain ⟨e1, e2⟩ := hw
    refine w_goto 30 d_A_touchPages_19 (by decide) ?_
    exact w_vret d_A_touchPages_30 rfl (⟨rfl, e1, hS1.keep (e2 8 (by decide)) (e2 9 (by decide)) (e2 10 (by decide)), same_trans (same_sub hs (by simp)) (same_sub e2 (by simp))⟩)
  · -- case
    have hi9 := hlw i rfl
    refine w_iconst (-1) d_A_touchPages_11 (by decide) ?_
    refine w_icmp_ne 22 d_A_touchPages_12 (by decide) (fun _ => ?_) (fun hn => absurd hn ((nI_neg (by omega))))
    refine w_aload_n d_A_touchPages_22 rfl ?_
    refine w_aload_n d_A_touchPages_23 rfl ?_
    refine w_getf g_A_88 d_A_touchPages_24 hA1 rfl (by decide) ?_
    refine w_vV [_] c_A_301 d_A_touchPages_27 rfl hA1 (by decide) (a_touchIndex hi9 hA1 hi hrt (same_of hs (by decide) hT) (same_of hs (by decide) hV) (same_of hs (by decide) hH) hC1 hS1 hn hP1 hh) (fun w hw => ?_) rfl rfl (gq rfl) (gq rfl) (gq rfl) (gq rfl) (gq rfl) (gq rfl)
    obtain ⟨e1, e2, e3⟩ := hw
    exact w_vret d_A_touchPages_30 rfl (⟨rfl, e1, e2, same_trans (same_sub hs (by simp)) e3⟩)
theorem a_fnGo (hi : ins ≤ 64) : ∀ (d k : Nat) (c : Nat → va_E) (fr : Nat → Int32), k + d = ins → c 0 = oA a oc rl bp lw lc → c 1 = oT a ins rt → c 2 = aI X 192 v → c 3 = aZ X 64 h → cnd X a c 4 K F T → c 77 = oR a 77 ((liveL h k).filter (fitR K F T v)).length → c 78 = aI X 64 fr → lay fr 0 ((liveL h k).filter (fitR K F T v)) → ∀ {Post : gO → (Nat → va_E) → Prop},
    (∀ w fr', w 77 = oR a 77 ((liveL h ins).filter (fitR K F T v)).length → w 78 = aI X 64 fr' → lay fr' 0 ((liveL h ins).filter (fitR K F T v)) → same c w [77, 78] → GW X a m_A_findAnswer 4 96 0 0 62 [(0, .ref (a 0))] [] w Post) →
    GW X a m_A_findAnswer 4 96 0 0 10 [(0, .ref (a 0)), (1, .int (nI k))] [] c Post := by
  intro d
  induction d with
  | zero =>
    intro k c fr hk hA hT hV hH hC hR hF hl Post next
    have e : k = ins := by omega
    subst e
    refine w_iload_n d_A_findAnswer_10 rfl ?_
    refine w_aload_n d_A_findAnswer_11 rfl ?_
    refine w_getf g_A_12 d_A_findAnswer_12 hA rfl (by decide) ?_
    refine w_getf g_A_274 d_A_findAnswer_15 hT rfl (by decide) ?_
    refine w_icmp_ge 62 d_A_findAnswer_18 (by decide) (fun _ => ?_) (fun hn => absurd ((nI_leI (by omega) (by omega)).mpr (by omega)) hn)
    exact w_sel [0] rfl (next c fr hR hF hl same_rf)
  | succ d ih =>
    intro k c fr hk hA hT hV hH hC hR hF hl Post next
    have e := liveL_s (h := h) (k := k)
    have hle : ((liveL h k).filter (fitR K F T v)).length < 64 := by
      have h1 := List.length_filter_le (fitR K F T v) (liveL h k)
      have h2 := liveL_len h k
      omega
    refine w_iload_n d_A_findAnswer_10 rfl ?_
    refine w_aload_n d_A_findAnswer_11 rfl ?_
    refine w_getf g_A_12 d_A_findAnswer_12 hA rfl (by decide) ?_
    refine w_getf g_A_274 d_A_findAnswer_15 hT rfl (by decide) ?_
    refine w_icmp_ge 62 d_A_findAnswer_18 (by decide) (fun hn => absurd hn (fun z => absurd ((nI_leI (by omega) (by omega)).mp z) (by omega))) (fun _ => ?_)
    refine w_aload_n d_A_findAnswer_21 rfl ?_
    refine w_getf g_A_12 d_A_findAnswer_22 hA rfl (by decide) ?_
    refine w_getf g_A_277 d_A_findAnswer_25 hT rfl (by decide) ?_
    refine w_iload_n d_A_findAnswer_28 rfl ?_
    refine w_zald d_A_findAnswer_29 hH rfl (by omega) (by decide) (by decide) ?_
    refine w_if_eq 56 d_A_findAnswer_30 (by decide) (fun hz => ?_) (fun hz => ?_)
    · -- taken
      rw [if_pos hz] at e
      first | refine w_iinc _ d_A_findAnswer_56 rfl (nIinc _) (by decide) ?_ | refine w_iinc _ d_A_findAnswer_56 rfl rfl (by decide) ?_
      refine w_goto 10 d_A_findAnswer_59 (by decide) ?_
      exact ih (k + 1) c fr (by omega) hA hT hV hH hC (by rw [e]; exact hR) hF (by rw [e]; exact hl) next
    · -- not taken
      rw [if_neg hz] at e
      have e2 : (liveL h (k + 1)).filter (fitR K F T v) = if fitR K F T v k then (liveL h k).filter (fitR K F T v) ++ [k] else (liveL h k).filter (fitR K F T v) := by rw [e, List.filter_append]; by_cases hb : fitR K F T v k = true <;> simp [hb]
      refine w_aload_n d_A_findAnswer_33 rfl ?_
      refine w_getf g_A_19 d_A_findAnswer_34 hA rfl (by decide) ?_
      refine w_aload_n d_A_findAnswer_37 rfl ?_
      refine w_getf g_A_12 d_A_findAnswer_38 hA rfl (by decide) ?_
      refine w_iload_n d_A_findAnswer_41 rfl ?_
      refine w_vI [_, _] c_A_329 d_A_findAnswer_42 rfl hC.1 (by decide) (c_fitRow (r := k) hC (by decide) hT hV (by omega)) (fun x w hw => ?_) rfl rfl (gq rfl) (gq rfl) (gq rfl) (gq rfl) (gq rfl) (gq rfl)
      obtain ⟨rfl, rfl⟩ := hw
      refine w_if_eq 56 d_A_findAnswer_45 (by decide) (fun hf => ?_) (fun hf => ?_)
      · -- taken
        have hf' := bI_t.mp hf
        rw [hf'] at e2
        first | refine w_iinc _ d_A_findAnswer_56 rfl (nIinc _) (by decide) ?_ | refine w_iinc _ d_A_findAnswer_56 rfl rfl (by decide) ?_
        refine w_goto 10 d_A_findAnswer_59 (by decide) ?_
        exact ih (k + 1) c fr (by omega) hA hT hV hH hC (by rw [e2]; exact hR) hF (by rw [e2]; exact hl) next
      · -- not taken
        have hf' := bI_n.mp hf
        rw [hf'] at e2
        refine w_aload_n d_A_findAnswer_48 rfl ?_
        refine w_getf g_A_74 d_A_findAnswer_49 hA rfl (by decide) ?_
        refine w_iload_n d_A_findAnswer_52 rfl ?_
        refine w_vV [_] c_A_333 d_A_findAnswer_53 rfl hR (by decide) (r_append (q := 77) (r := k) hR hF hle (by decide)) (fun w hw => ?_) rfl rfl (gq rfl) (gq rfl) (gq rfl) (gq rfl) (gq rfl) (gq rfl)
        subst hw
        first | refine w_iinc _ d_A_findAnswer_56 rfl (nIinc _) (by decide) ?_ | refine w_iinc _ d_A_findAnswer_56 rfl rfl (by decide) ?_
        refine w_goto 10 d_A_findAnswer_59 (by decide) ?_
        have hs : same c (va_up (va_up c (77 + 1) (aI X 64 (upd fr ((liveL h k).filter (fitR K F T v)).length (nI k)))) 77 (oR a 77 (((liveL h k).filter (fitR K F T v)).length + 1))) [77, 78] := same_trans (same_up (by simp)) (same_up (by simp))
        exact ih (k + 1) (va_up (va_up c (77 + 1) (aI X 64 (upd fr ((liveL h k).filter (fitR K F T v)).length (nI k)))) 77 (oR a 77 (((liveL h k).filter (fitR K F T v)).length + 1))) (upd fr ((liveL h k).filter (fitR K F T v)).length (nI k)) (by omega) hA hT hV hH (hC.same hs (by decide)) (by rw [e2, va_s]; simp) rfl (by rw [e2]; exact lay_app.mpr ⟨lay_upd hl (Or.inr (by omega)), lay_one.mpr (by rw [Nat.zero_add]; exact pk_us)⟩) (fun w fr' q1 q2 q3 q4 => next w fr' q1 q2 q3 (same_trans hs q4))
theorem lay_take {f : Nat → Int32} {l : List Nat} (n : Nat) (hl : lay f 0 l) : lay f 0 (l.take n) := fun i hi => by
  have hi2 : i < n ∧ i < l.length := by rw [List.length_take] at hi; omega
  rw [hl i hi2.2]
  simp [List.getD_eq_getElem?_getD, List.getElem?_take, hi2.1]
theorem a_findAnswer {n0 : Nat} {fr0 : Nat → Int32} (hA : c 0 = oA a oc rl bp lw lc) (hoc : isCol oc) (hrl : rl ≤ 64) (hi : ins ≤ 64) (hT : c 1 = oT a ins rt) (hV : c 2 = aI X 192 v) (hH : c 3 = aZ X 64 h) (hC : cnd X a c 4 K F T) (hR : c 77 = oR a 77 n0) (hF : c 78 = aI X 64 fr0) :
    GW X a m_A_findAnswer 4 96 0 0 0 (lv_args 0 [.ref (a 0)]) [] c (pV (fun w => w 77 = oR a 77 (ansL h v K F T ins oc rl).length ∧ (∃ fr, w 78 = aI X 64 fr ∧ lay fr 0 (ansL h v K F T ins oc rl)) ∧ same c w [77, 78])) := by
  have hin : ((liveL h ins).filter (fitR K F T v)).length ≤ 64 := filter_len_le hi
  have hin64 : ∀ x ∈ (liveL h ins).filter (fitR K F T v), x < 64 := fun x hx => by have := liveL_lt (List.mem_filter.mp hx).1; omega
  refine w_aload_n d_A_findAnswer_0 rfl ?_
  refine w_getf g_A_74 d_A_findAnswer_1 hA rfl (by decide) ?_
  refine w_iconst 0 d_A_findAnswer_4 (by decide) ?_
  refine w_putf p_A_152 d_A_findAnswer_5 hR rfl rfl (gqL rfl) (by decide) ?_
  refine w_iconst 0 d_A_findAnswer_8 (by decide) ?_
  refine w_istore_n d_A_findAnswer_9 (by decide) ?_
  have hs : same c (va_up c 77 (oR a 77 0)) [77, 78] := same_up (by simp)
  refine a_fnGo hi ins 0 (va_up c 77 (oR a 77 0)) fr0 (by omega) hA hT hV hH (hC.same hs (by decide)) rfl hF lay_nil (fun w fr' q1 q2 q3 q4 => ?_)
  have hA1 : w 0 = oA a oc rl bp lw lc := (q4 0 (by decide)).trans hA
  have hT1 : w 1 = oT a ins rt := (q4 1 (by decide)).trans hT
  have hV1 : w 2 = aI X 192 v := (q4 2 (by decide)).trans hV
  refine w_aload_n d_A_findAnswer_62 rfl ?_
  refine w_getf g_A_74 d_A_findAnswer_63 hA1 rfl (by decide) ?_
  refine w_aload_n d_A_findAnswer_66 rfl ?_
  refine w_getf g_A_12 d_A_findAnswer_67 hA1 rfl (by decide) ?_
  refine w_aload_n d_A_findAnswer_70 rfl ?_
  refine w_getf g_A_78 d_A_findAnswer_71 hA1 rfl (by decide) ?_
  refine w_iconst (-1) d_A_findAnswer_74 (by decide) ?_
  refine w_vV [_, _, _] c_A_336 d_A_findAnswer_75 rfl q1 (by decide) (r_sort (q := 77) (fc := oc) (gc := -1) hT1 hV1 q1 q2 (by decide) (by decide) rfl hin hin64 hoc (Or.inl rfl) q3) (fun w hw => ?_) rfl rfl (gq rfl) (gq rfl) (gq rfl) (gq rfl) (gq rfl) (gq rfl)
  obtain ⟨f', rfl, hl'⟩ := hw
  have hA2 : va_up w (77 + 1) (aI X 64 f') 0 = oA a oc rl bp lw lc := va_n (by decide) hA1
  have hR2 : va_up w (77 + 1) (aI X 64 f') 77 = oR a 77 ((liveL h ins).filter (fitR K F T v)).length := va_n (by decide) q1
  refine w_aload_n d_A_findAnswer_78 rfl ?_
  refine w_getf g_A_74 d_A_findAnswer_79 hA2 rfl (by decide) ?_
  refine w_aload_n d_A_findAnswer_82 rfl ?_
  refine w_getf g_A_74 d_A_findAnswer_83 hA2 rfl (by decide) ?_
  refine w_getf g_A_152 d_A_findAnswer_86 hR2 rfl (by decide) ?_
  refine w_aload_n d_A_findAnswer_89 rfl ?_
  refine w_getf g_A_82 d_A_findAnswer_90 hA2 rfl (by decide) ?_
  refine w_mmin w_457 d_A_findAnswer_93 (gq rfl) (gq rfl) ?_
  rw [minN (by omega) (by omega)]
  refine w_putf p_A_152 d_A_findAnswer_96 hR2 rfl rfl (gqL rfl) (by decide) ?_
  have hlen : (ansL h v K F T ins oc rl).length = min ((liveL h ins).filter (fitR K F T v)).length rl := by rw [ansL, List.length_take, List.length_reverse, srt_len (gtv_swo _ _ _), Nat.min_comm]
  exact w_vret d_A_findAnswer_99 rfl (⟨rfl, by rw [hlen]; rfl, ⟨f', rfl, lay_take rl hl'⟩, same_trans (same_trans (same_trans hs q4) (same_up (by simp))) (same_up (by simp))⟩)
end AK
