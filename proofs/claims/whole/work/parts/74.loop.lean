/-! The law: its loop -/
theorem sw21 (v : Int32) : (v.toInt < 0 ∨ 20 < v.toInt) ∨ ∃ j : Nat, j ≤ 20 ∧ v = nI j := by
  by_cases h1 : v.toInt < 0
  · exact Or.inl (Or.inl h1)
  · by_cases h2 : 20 < v.toInt
    · exact Or.inl (Or.inr h2)
    · refine Or.inr ⟨v.toInt.toNat, by omega, Int32.toInt_inj.mp ?_⟩
      rw [nI_toInt (by omega)]
      omega
theorem lp_in {i s : Nat} (hs : s < 2 ^ 30) (hi : i < 2 ^ 30) (h : ¬ nI s - 5 < nI i) : i + 5 ≤ s := by
  have h1 : nI i ≤ nI s - nI 5 := nlt_le h
  rw [Int32.le_iff_toInt_le, pk_sub_toInt hs (by decide), nI_toInt (by omega)] at h1
  omega
section LP
variable {X : gX} {a : Nat → Nat}
theorem l_loop (hX : X.l.stackTraces = false) (hsl : X.sl ≤ 2561) : ∀ (e n : Nat) (c : Nat → va_E) (C S : Nat), X.sl ≤ 5 * n + 5 + 5 * e → n + e ≤ 600 → 4 * e ≤ C → 24 * e ≤ S → lwI X a c n →
    GW X a m_L_law 11 388 C S 33 [(0, .ref X.sb), (1, .ref (a 0)), (2, .ref (a 79)), (3, .ref (a 94)), (4, .int (nI (5 * n + 1)))] [] c PL := by
  intro e
  induction e with
  | zero =>
    intro n c C S hs hne hC hS I
    refine w_iload d_L_law_33 rfl ?_
    refine w_aload_n d_L_law_35 rfl ?_
    refine w_slen d_L_law_36 ?_
    refine w_iconst 5 d_L_law_37 (by decide) ?_
    refine w_isub d_L_law_38 ?_
    refine w_icmp_gt 1133 d_L_law_39 (by decide) (fun hg => ?_) (fun hg => ?_)
    · -- taken
      refine w_iconst 1 d_L_law_1133 (by decide) ?_
      exact w_zret (Or.inr rfl) d_L_law_1134 rfl (rfl)
    · -- not taken
      exact absurd (lp_in (by omega) (by omega) hg) (by omega)
  | succ e ih =>
    intro n c C S hs hne hC hS I
    obtain ⟨t, k, o, l, p, d, b, r, th, u, h, hm, ok, hO⟩ := I
    have hn : n < 600 := by omega
    have hs31 : X.sl < 2 ^ 31 := by omega
    have hC4 : 4 ≤ C := by omega
    have hS4 : 24 ≤ S := by omega
    have kk : ∀ w, lwI X a w (n + 1) → GW X a m_L_law 11 388 (C - 4) (S - 24) 1127 [(0, .ref X.sb), (1, .ref (a 0)), (2, .ref (a 79)), (3, .ref (a 94)), (4, .int (nI (5 * n + 1)))] [] w PL := by
      intro w I
      refine w_iinc (nI (5 * (n + 1) + 1)) d_L_law_1127 rfl ((nI_add (5 * n + 1) 5).trans (congrArg nI (by omega))) (by decide) ?_
      refine w_goto 33 d_L_law_1130 (by decide) ?_
      exact ih (n + 1) w _ _ (by omega) (by omega) (by omega) (by omega) I
    refine w_iload d_L_law_33 rfl ?_
    refine w_aload_n d_L_law_35 rfl ?_
    refine w_slen d_L_law_36 ?_
    refine w_iconst 5 d_L_law_37 (by decide) ?_
    refine w_isub d_L_law_38 ?_
    refine w_icmp_gt 1133 d_L_law_39 (by decide) (fun hg => ?_) (fun hg => ?_)
    · -- taken
      refine w_iconst 1 d_L_law_1133 (by decide) ?_
      exact w_zret (Or.inr rfl) d_L_law_1134 rfl (rfl)
    · -- not taken
      have hi : 5 * n + 1 + 5 ≤ X.sl := lp_in (by omega) (by omega) hg
      refine w_aload_n d_L_law_42 rfl ?_
      refine w_iload d_L_law_43 rfl ?_
      refine w_sald d_L_law_45 rfl (by omega) hs31 ?_
      refine w_bipush 31 d_L_law_46 (by decide) ?_
      refine w_iand d_L_law_48 ?_
      rcases sw21 (X.sx (5 * n + 1) &&& 31) with ho | ⟨j, hj, ej⟩
      · -- case
        refine w_tabOut 1127 d_L_law_49 (ho) (by decide) ?_
        exact w_less (Nat.le_refl _) (Nat.le_refl _) (by omega) (by omega) (kk _ ⟨_, _, _, _, _, _, _, _, _, _, h, hm, ok_mono ok hn, hO⟩)
      · -- case
        rw [ej]
        clear ej
        match j, hj with
        | 0, _ => exact w_tabIn 148 d_L_law_49 (by decide) (by decide) rfl (by decide) (k_insert hX h hm ok hn hO hi hs31 hC4 hS4 kk)
        | 1, _ => exact w_tabIn 228 d_L_law_49 (by decide) (by decide) rfl (by decide) (k_delete hX h hm ok hn hO hi hs31 hC4 hS4 kk)
        | 2, _ => exact w_tabIn 264 d_L_law_49 (by decide) (by decide) rfl (by decide) (k_change hX h hm ok hn hO hi hs31 hC4 hS4 kk)
        | 3, _ => exact w_tabIn 324 d_L_law_49 (by decide) (by decide) rfl (by decide) (k_value hX h hm ok hn hO hi hs31 hC4 hS4 kk)
        | 4, _ => exact w_tabIn 392 d_L_law_49 (by decide) (by decide) rfl (by decide) (k_where hX h hm ok hn hO hi hs31 hC4 hS4 kk)
        | 5, _ => exact w_tabIn 464 d_L_law_49 (by decide) (by decide) rfl (by decide) (k_order hX h hm ok hn hO hi hs31 hC4 hS4 kk)
        | 6, _ => exact w_tabIn 512 d_L_law_49 (by decide) (by decide) rfl (by decide) (k_ask hX h hm ok hn hO hi hs31 hC4 hS4 kk)
        | 7, _ => exact w_tabIn 525 d_L_law_49 (by decide) (by decide) rfl (by decide) (k_answer hX h hm ok hn hO hi hs31 hC4 hS4 kk)
        | 8, _ => exact w_tabIn 581 d_L_law_49 (by decide) (by decide) rfl (by decide) (k_last hX h hm ok hn hO hi hs31 hC4 hS4 kk)
        | 9, _ => exact w_tabIn 637 d_L_law_49 (by decide) (by decide) rfl (by decide) (k_cost hX h hm ok hn hO hi hs31 hC4 hS4 kk)
        | 10, _ => exact w_tabIn 693 d_L_law_49 (by decide) (by decide) rfl (by decide) (k_index hX h hm ok hn hO hi hs31 hC4 hS4 kk)
        | 11, _ => exact w_tabIn 761 d_L_law_49 (by decide) (by decide) rfl (by decide) (k_shapes hX h hm ok hn hO hi hs31 hC4 hS4 kk)
        | 12, _ => exact w_tabIn 774 d_L_law_49 (by decide) (by decide) rfl (by decide) (k_shape hX h hm ok hn hO hi hs31 hC4 hS4 kk)
        | 13, _ => exact w_tabIn 842 d_L_law_49 (by decide) (by decide) rfl (by decide) (k_changes hX h hm ok hn hO hi hs31 hC4 hS4 kk)
        | 14, _ => exact w_tabIn 855 d_L_law_49 (by decide) (by decide) rfl (by decide) (k_period hX h hm ok hn hO hi hs31 hC4 hS4 kk)
        | 15, _ => exact w_tabIn 868 d_L_law_49 (by decide) (by decide) rfl (by decide) (k_budget hX h hm ok hn hO hi hs31 hC4 hS4 kk)
        | 16, _ => exact w_tabIn 904 d_L_law_49 (by decide) (by decide) rfl (by decide) (k_choose hX h hm ok hn hO hi hs31 hC4 hS4 kk)
        | 17, _ => exact w_tabIn 917 d_L_law_49 (by decide) (by decide) rfl (by decide) (k_costOf hX h hm ok hn hO hi hs31 hC4 hS4 kk)
        | 18, _ => exact w_tabIn 972 d_L_law_49 (by decide) (by decide) rfl (by decide) (k_build hX h hm ok hn hO hi hs31 hC4 hS4 kk)
        | 19, _ => exact w_tabIn 1008 d_L_law_49 (by decide) (by decide) rfl (by decide) (k_work hX h hm ok hn hO hi hs31 hC4 hS4 kk)
        | 20, _ => exact w_tabIn 1064 d_L_law_49 (by decide) (by decide) rfl (by decide) (k_drop hX h hm ok hn hO hi hs31 hC4 hS4 kk)
        | j + 21, hj => exact absurd hj (by omega)
end LP
