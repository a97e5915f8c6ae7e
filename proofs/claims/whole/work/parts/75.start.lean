/-! The law: from its start to its loop -/
-- the world at the loop's start
def c0L (X : gX) (x : Int32) (Z : Nat → Nat) (pf : Nat → Int32) (sf : Nat → Option Nat) (PP : Nat → Int32) : List va_E := [oA Z (-1) 64 16 none 0, oT Z 0 0, aI X 192 (fun _ => 0), aZ X 64 (fun _ => 0), oC Z 4, aI X 3 (fun _ => 0), aI X 3 (fun _ => 0), aI X 3 (fun _ => 0), oS Z 0 0 false 0, oR Z 9 0, aI X 64 (fun _ => 0), oW Z 11 0, aI X 9 (fun _ => 0), oP Z 0 0 0, aI X (nFr x) pf, aZ X (nFr x) (fun _ => 0), oD Z 0 0, aQ X sf, oH Z 0 0, oC Z 19, aI X 3 (fun _ => 0), aI X 3 (fun _ => 0), aI X 3 (fun _ => 0), oW Z 23 0, aI X 9 (fun _ => 0), oH Z 1 0, oC Z 26, aI X 3 (fun _ => 0), aI X 3 (fun _ => 0), aI X 3 (fun _ => 0), oW Z 30 0, aI X 9 (fun _ => 0), oH Z 2 0, oC Z 33, aI X 3 (fun _ => 0), aI X 3 (fun _ => 0), aI X 3 (fun _ => 0), oW Z 37 0, aI X 9 (fun _ => 0), oH Z 3 0, oC Z 40, aI X 3 (fun _ => 0), aI X 3 (fun _ => 0), aI X 3 (fun _ => 0), oW Z 44 0, aI X 9 (fun _ => 0), oH Z 4 0, oC Z 47, aI X 3 (fun _ => 0), aI X 3 (fun _ => 0), aI X 3 (fun _ => 0), oW Z 51 0, aI X 9 (fun _ => 0), oH Z 5 0, oC Z 54, aI X 3 (fun _ => 0), aI X 3 (fun _ => 0), aI X 3 (fun _ => 0), oW Z 58 0, aI X 9 (fun _ => 0), oH Z 6 0, oC Z 61, aI X 3 (fun _ => 0), aI X 3 (fun _ => 0), aI X 3 (fun _ => 0), oW Z 65 0, aI X 9 (fun _ => 0), oH Z 7 0, oC Z 68, aI X 3 (fun _ => 0), aI X 3 (fun _ => 0), aI X 3 (fun _ => 0), oW Z 72 0, aI X 9 (fun _ => 0), oV Z, oB Z none 0 0, aI X 9 (fun _ => 0), oR Z 77 0, aI X 64 (fun _ => 0), oM Z (0, 0, 0, 0) ((0, (fun _ => 0), (fun _ => 0)) : QT) ((-1, 64, 16) : QO) ((none, 0) : QL) ((nFr x, pf, (fun _ => 0), 0, 0, 0) : QP) ((0, 0, fun _ => ((fun _ => 0), (fun _ => 0), (fun _ => 0), 0)) : QD) ((none, 0, 0, (fun _ => 0)) : QB) 0, aZ X 64 (fun _ => 0), aI X 192 (fun _ => 0), aI X 9 mf1, aI X 9 mf2, aI X 9 (fun _ => 0), aI X 27 (fun _ => 0), aI X 27 (fun _ => 0), aI X 27 (fun _ => 0), aI X 8 (fun _ => 0), aI X 16 PP, aZ X 16 (fun _ => 0), aI X 64 (fun _ => 0), aI X 64 (fun _ => 0), aI X 73 (fun _ => 0), aJ X 1 (fun _ => 0)]
def c0 (X : gX) (x : Int32) (Z : Nat → Nat) (pf : Nat → Int32) (sf : Nat → Option Nat) (PP : Nat → Int32) : Nat → va_E := fun k => (c0L X x Z pf sf PP).getD k (.inr (0, []))
section LS
variable {X : gX} {x : Int32} {Z : Nat → Nat} {pf : Nat → Int32} {sf : Nat → Option Nat} {PP : Nat → Int32}
theorem s_led (hsf : ∀ k, k < 8 → sf k = some (Z (18 + 7 * k))) : led X Z (c0 X x Z pf sf PP) 0 0 (fun k => k) (fun _ => ((fun _ => 0), (fun _ => 0), (fun _ => 0), 0)) := by
  refine ⟨rfl, ⟨sf, rfl, hsf⟩, ⟨fun k h => h, fun i j _ _ h => h⟩, fun j hj => ?_⟩
  match j, hj with
  | 0, _ => exact ⟨rfl, ⟨rfl, rfl, rfl, rfl⟩, 0, (fun _ => 0), rfl, rfl⟩
  | 1, _ => exact ⟨rfl, ⟨rfl, rfl, rfl, rfl⟩, 0, (fun _ => 0), rfl, rfl⟩
  | 2, _ => exact ⟨rfl, ⟨rfl, rfl, rfl, rfl⟩, 0, (fun _ => 0), rfl, rfl⟩
  | 3, _ => exact ⟨rfl, ⟨rfl, rfl, rfl, rfl⟩, 0, (fun _ => 0), rfl, rfl⟩
  | 4, _ => exact ⟨rfl, ⟨rfl, rfl, rfl, rfl⟩, 0, (fun _ => 0), rfl, rfl⟩
  | 5, _ => exact ⟨rfl, ⟨rfl, rfl, rfl, rfl⟩, 0, (fun _ => 0), rfl, rfl⟩
  | 6, _ => exact ⟨rfl, ⟨rfl, rfl, rfl, rfl⟩, 0, (fun _ => 0), rfl, rfl⟩
  | 7, _ => exact ⟨rfl, ⟨rfl, rfl, rfl, rfl⟩, 0, (fun _ => 0), rfl, rfl⟩
  | j + 8, hj => exact absurd hj (by omega)
theorem s_cls (hsf : ∀ k, k < 8 → sf k = some (Z (18 + 7 * k))) : cls X Z (c0 X x Z pf sf PP) ((0, (fun _ => 0), (fun _ => 0)) : QT) (((fun _ => 0), (fun _ => 0), (fun _ => 0)) : QC) ((-1, 64, 16) : QO) ((none, 0) : QL) ((nFr x, pf, (fun _ => 0), 0, 0, 0) : QP) ((0, 0, fun _ => ((fun _ => 0), (fun _ => 0), (fun _ => 0), 0)) : QD) ((none, 0, 0, (fun _ => 0)) : QB) [] :=
  ⟨rfl, rfl, rfl, rfl, ⟨rfl, rfl, rfl, rfl⟩, ⟨0, 0, false, 0, 0, (fun _ => 0), rfl, rfl, rfl⟩, ⟨0, (fun _ => 0), rfl, rfl⟩, ⟨rfl, rfl, rfl⟩, ⟨fun k => k, _, s_led hsf, fun i hi => absurd hi (Nat.not_lt_zero _), fun i _ _ => rfl⟩, rfl, rfl, rfl, rfl, (fun _ => 0), rfl, fun i hi => absurd hi (Nat.not_lt_zero _)⟩
theorem s_mdl (hpf : ∀ k, k < nFr x → pf k = -1) (hPP : ∀ k, k < 16 → PP k = -1) : mdl X Z (c0 X x Z pf sf PP) 0 ((0, (fun _ => 0), (fun _ => 0)) : QT) (((fun _ => 0), (fun _ => 0), (fun _ => 0)) : QC) ((-1, 64, 16) : QO) ((none, 0) : QL) ((nFr x, pf, (fun _ => 0), 0, 0, 0) : QP) ((0, 0, fun _ => ((fun _ => 0), (fun _ => 0), (fun _ => 0), 0)) : QD) ((none, 0, 0, (fun _ => 0)) : QB) [] := by
  refine ⟨⟨(0, 0, 0), rfl⟩, rfl, rfl, ⟨mf1, mf2, rfl, rfl, mf_ok⟩, rfl, ⟨(fun _ => 0), (fun _ => 0), (fun _ => 0), rfl, rfl, rfl, fun q hq j hj => ?_⟩, ⟨(fun _ => 0), rfl, fun i hi => absurd hi (Nat.not_lt_zero _)⟩, ⟨PP, (fun _ => 0), rfl, rfl, fun f hf => ⟨?_, rfl⟩⟩, ⟨(fun _ => 0), rfl, fun i hi => absurd hi (Nat.not_lt_zero _)⟩, ⟨(fun _ => 0), rfl⟩, (fun _ => 0), rfl⟩
  · obtain rfl : q = 0 := Nat.le_zero.mp hq
    exact ⟨rfl, rfl, ite_self _⟩
  · rw [hPP f (Nat.lt_of_lt_of_le hf (nFr_ok x).2.1)]
    show -1 = cod (pf f)
    rw [hpf f hf]
    rfl
theorem s_ok (hpf : ∀ k, k < nFr x → pf k = -1) : okQ 0 ((0, (fun _ => 0), (fun _ => 0)) : QT) (((fun _ => 0), (fun _ => 0), (fun _ => 0)) : QC) ((-1, 64, 16) : QO) ((none, 0) : QL) ((nFr x, pf, (fun _ => 0), 0, 0, 0) : QP) ((0, 0, fun _ => ((fun _ => 0), (fun _ => 0), (fun _ => 0), 0)) : QD) ((none, 0, 0, (fun _ => 0)) : QB) [] :=
  ⟨by decide, fun j hj => ⟨Or.inl rfl, ite_self _⟩, ⟨Or.inl rfl, by decide, by decide⟩, fun i h => (by cases h), ⟨(nFr_ok x).1, (nFr_ok x).2.1, Nat.lt_of_lt_of_le (show 0 < 2 by decide) (nFr_ok x).1, fun i hi => Or.inl (hpf i hi)⟩, ⟨by decide, by decide, fun i hi => absurd hi (Nat.not_lt_zero _)⟩, ⟨fun j h => (by cases h), by decide, by decide, fun j h => (by cases h)⟩, ⟨by decide, fun x hx => absurd hx (by simp)⟩, by decide⟩
theorem s_inv (hsf : ∀ k, k < 8 → sf k = some (Z (18 + 7 * k))) (hpf : ∀ k, k < nFr x → pf k = -1) (hPP : ∀ k, k < 16 → PP k = -1) : lwI X Z (c0 X x Z pf sf PP) 0 := ⟨_, _, _, _, _, _, _, _, 0, (fun _ => 0), s_cls hsf, s_mdl hpf hPP, s_ok hpf, rfl⟩
end LS
def zZ (b0 q1 q2 q3 q4 q5 q6 q7 q8 q9 q10 q11 q12 q13 q14 q15 q16 q17 : Nat) (A : Nat → Nat → Nat) (q74 q75 q76 q77 q78 b1 q80 q81 q82 q83 q84 q85 q86 q87 q88 q89 q90 q91 q92 q93 b2 : Nat) : Nat → Nat := fun k => [b0, q1, q2, q3, q4, q5, q6, q7, q8, q9, q10, q11, q12, q13, q14, q15, q16, q17, A 0 0, A 0 1, A 0 2, A 0 3, A 0 4, A 0 5, A 0 6, A 1 0, A 1 1, A 1 2, A 1 3, A 1 4, A 1 5, A 1 6, A 2 0, A 2 1, A 2 2, A 2 3, A 2 4, A 2 5, A 2 6, A 3 0, A 3 1, A 3 2, A 3 3, A 3 4, A 3 5, A 3 6, A 4 0, A 4 1, A 4 2, A 4 3, A 4 4, A 4 5, A 4 6, A 5 0, A 5 1, A 5 2, A 5 3, A 5 4, A 5 5, A 5 6, A 6 0, A 6 1, A 6 2, A 6 3, A 6 4, A 6 5, A 6 6, A 7 0, A 7 1, A 7 2, A 7 3, A 7 4, A 7 5, A 7 6, q74, q75, q76, q77, q78, b1, q80, q81, q82, q83, q84, q85, q86, q87, q88, q89, q90, q91, q92, q93, b2].getD k 0
theorem s_world {X : gX} {x : Int32} {pf : Nat → Int32} {sf : Nat → Option Nat} {PP : Nat → Int32} (b0 q1 q2 q3 q4 q5 q6 q7 q8 q9 q10 q11 q12 q13 q14 q15 q16 q17 : Nat) (A : Nat → Nat → Nat) (q74 q75 q76 q77 q78 b1 q80 q81 q82 q83 q84 q85 q86 q87 q88 q89 q90 q91 q92 q93 b2 : Nat) : (([(b0, .inr (0, [.ref q1, .ref q4, .ref q8, .ref q11, .ref q13, .ref q16, .ref q74, .ref q75, .ref q77, .int (-1), .int 64, .int 16, .int (-1), .int 0]))] ++ ctA X x q1 q2 q3 q4 q5 q6 q7 q8 q9 q10 q11 q12 q13 q14 q15 q16 q17 A q74 q75 q76 q77 q78 pf sf) ++ [(b1, .inr (11, fsM x q80 q81 q82 q83 q84 q85 q86 q87 q88 q89 q90 q91 q92 q93))] ++ ctM X q80 q81 q82 q83 q84 q85 q86 q87 q88 q89 q90 q91 q92 q93 PP) ++ [(b2, aJ X 1 (fun _ => 0))] = wl (zZ b0 q1 q2 q3 q4 q5 q6 q7 q8 q9 q10 q11 q12 q13 q14 q15 q16 q17 A q74 q75 q76 q77 q78 b1 q80 q81 q82 q83 q84 q85 q86 q87 q88 q89 q90 q91 q92 q93 b2) (c0 X x (zZ b0 q1 q2 q3 q4 q5 q6 q7 q8 q9 q10 q11 q12 q13 q14 q15 q16 q17 A q74 q75 q76 q77 q78 b1 q80 q81 q82 q83 q84 q85 q86 q87 q88 q89 q90 q91 q92 q93 b2) pf sf PP) := rfl
theorem l_law {X : gX} (hX : X.l.stackTraces = false) (hs0 : X.sl ≤ 2561) : G X m_L_law 11 388 2200 14000 0 (lv_args 0 [.ref X.sb]) [] [] (fun r _ => r = .inl (some (.int 1))) := by
  have hsl : X.sl < 2 ^ 31 := by omega
  refine g_new (ci := 0) (fs := [.null, .null, .null, .null, .null, .null, .null, .null, .null, .int 0, .int 0, .int 0, .int 0, .int 0]) rfl w_22 w_23 w_1 ws_A ty_A tyok_A (by decide) d_L_law_0 (gq rfl) (gq rfl) (fun b0 => ?_)
  refine g_dup d_L_law_3 rfl ?_
  refine g_aload_n d_L_law_4 rfl ?_
  refine g_iconst 0 d_L_law_5 (by decide) ?_
  refine g_sI [.ref X.sb, .int 0] c_L_74 d_L_law_6 (l_cell (j := 0) (by decide) hsl) (fun x w hw => ?_) rfl rfl (gq rfl) (gq rfl) (gq rfl) (gq rfl) (gq rfl) (gq rfl)
  obtain ⟨hx, rfl⟩ := hw
  refine g_iV [.int x] c_L_80 d_L_law_9 (i_A (i := 0) rfl) (fun w hw => ?_) rfl rfl (gq rfl) (gq rfl) (gq rfl) (gq rfl) (gq rfl) (gq rfl)
  obtain ⟨q1, q2, q3, q4, q5, q6, q7, q8, q9, q10, q11, q12, q13, q14, q15, q16, q17, A, q74, q75, q76, q77, q78, pf, sf, hpf, hsf, rfl⟩ := hw
  refine g_ws (ws' := [(b0, .inr (0, [.ref q1, .ref q4, .ref q8, .ref q11, .ref q13, .ref q16, .ref q74, .ref q75, .ref q77, .int (-1), .int 64, .int 16, .int (-1), .int 0]))] ++ ctA X x q1 q2 q3 q4 q5 q6 q7 q8 q9 q10 q11 q12 q13 q14 q15 q16 q17 A q74 q75 q76 q77 q78 pf sf) rfl ?_
  refine g_astore_n d_L_law_12 (by decide) ?_
  refine g_new (ci := 11) (fs := [.int 0, .int 0, .null, .null, .null, .null, .null, .int 0, .int 0, .int 0, .null, .null, .null, .int 0, .int 0, .int 0, .null, .int 0, .int 0, .int 0, .null, .null, .int 0, .null, .int 0, .int 0, .int 0, .int 0, .int 0, .null, .int 0, .int 0, .int 0, .null]) rfl w_861 w_862 w_13 ws_M ty_M tyok_M (by decide) d_L_law_13 (gq rfl) (gq rfl) (fun b1 => ?_)
  refine g_dup d_L_law_16 rfl ?_
  refine g_aload_n d_L_law_17 rfl ?_
  refine g_iconst 0 d_L_law_18 (by decide) ?_
  refine g_sI [.ref X.sb, .int 0] c_L_74 d_L_law_19 (l_cell (j := 0) (by decide) hsl) (fun x2 w hw => ?_) rfl rfl (gq rfl) (gq rfl) (gq rfl) (gq rfl) (gq rfl) (gq rfl)
  obtain ⟨hx2, rfl⟩ := hw
  obtain rfl : x = x2 := hx.trans hx2.symm
  refine g_iV [.int x] c_L_84 d_L_law_22 (i_M geE) (fun w hw => ?_) rfl rfl (gq rfl) (gq rfl) (gq rfl) (gq rfl) (gq rfl) (gq rfl)
  obtain ⟨q80, q81, q82, q83, q84, q85, q86, q87, q88, q89, q90, q91, q92, q93, PP, hPP, rfl⟩ := hw
  rw [stE]
  refine g_astore_n d_L_law_25 (by decide) ?_
  refine g_iconst 1 d_L_law_26 (by decide) ?_
  refine g_newJ (j := 1) d_L_law_27 rfl (gq rfl) (gq rfl) (gq rfl) (fun b2 => ?_)
  refine g_astore_n d_L_law_29 (by decide) ?_
  refine g_iconst 1 d_L_law_30 (by decide) ?_
  refine g_istore d_L_law_31 (by decide) ?_
  refine g_ws (s_world b0 q1 q2 q3 q4 q5 q6 q7 q8 q9 q10 q11 q12 q13 q14 q15 q16 q17 A q74 q75 q76 q77 q78 b1 q80 q81 q82 q83 q84 q85 q86 q87 q88 q89 q90 q91 q92 q93 b2) ?_
  refine g_post (fun r w hw => ?_) (l_loop (a := zZ b0 q1 q2 q3 q4 q5 q6 q7 q8 q9 q10 q11 q12 q13 q14 q15 q16 q17 A q74 q75 q76 q77 q78 b1 q80 q81 q82 q83 q84 q85 q86 q87 q88 q89 q90 q91 q92 q93 b2) hX hs0 512 0 (c0 X x (zZ b0 q1 q2 q3 q4 q5 q6 q7 q8 q9 q10 q11 q12 q13 q14 q15 q16 q17 A q74 q75 q76 q77 q78 b1 q80 q81 q82 q83 q84 q85 q86 q87 q88 q89 q90 q91 q92 q93 b2) pf sf PP) _ _ (by omega) (by decide) (gq rfl) (gq rfl) (s_inv (fun k hk => ?_) hpf hPP))
  · obtain ⟨c', -, h⟩ := hw
    exact h
  · rw [hsf k hk]
    match k, hk with
    | 0, _ => rfl
    | 1, _ => rfl
    | 2, _ => rfl
    | 3, _ => rfl
    | 4, _ => rfl
    | 5, _ => rfl
    | 6, _ => rfl
    | 7, _ => rfl
    | k + 8, hk => exact absurd hk (by omega)
