/-! Constructor: Pool -/
def nFr (x : Int32) : Nat := if x < 2 then 2 else if 16 < x then 16 else x.toNatClampNeg
theorem nFr_ok (x : Int32) : 2 ≤ nFr x ∧ nFr x ≤ 16 ∧ (if x < 2 then 2 else if 16 < x then 16 else x) = nI (nFr x) := by
  unfold nFr
  split
  · exact ⟨by decide, by decide, rfl⟩
  · rename_i h1
    split
    · exact ⟨by decide, by decide, rfl⟩
    · rename_i h2
      have h0 : ¬ x < 0 := fun z => h1 (Int32.lt_trans z (by decide))
      obtain ⟨j, hj, rfl⟩ := nn_le (n := 16) h0 (nlt_le h2) (by decide)
      rw [nI_clamp (by omega)]
      refine ⟨?_, hj, rfl⟩
      have := (nI_leI (a := 2) (b := j) (by decide) (by omega)).mp (nlt_le h1)
      exact this
theorem nFr_mm (x : Int32) : (if 2 < (if x < 16 then x else 16) then (if x < 16 then x else 16) else 2) = nI (nFr x) := by
  rw [← (nFr_ok x).2.2]
  by_cases h1 : x < 2
  · have h2 : x < 16 := Int32.lt_trans h1 (by decide)
    rw [if_pos h1, if_pos h2, if_neg (le_nlt (Int32.le_of_lt h1))]
  · rw [if_neg h1]
    by_cases h2 : x < 16
    · rw [if_pos h2, if_neg (le_nlt (Int32.le_of_lt h2))]
      by_cases h3 : (2 : Int32) < x
      · rw [if_pos h3]
      · rw [if_neg h3]
        have h4 := nlt_le h1
        have h5 := nlt_le h3
        rw [Int32.le_iff_toInt_le] at h4 h5
        exact Int32.toInt_inj.mp (by omega)
    · rw [if_neg h2, if_pos (by decide)]
      by_cases h3 : (16 : Int32) < x
      · rw [if_pos h3]
      · rw [if_neg h3]
        have h4 := nlt_le h2
        have h5 := nlt_le h3
        rw [Int32.le_iff_toInt_le] at h4 h5
        exact Int32.toInt_inj.mp (by omega)
section CP
variable {X : gX} {ws : va_W}
theorem i_PGo {i b q1 q2 nF : Nat} {x : Int32} (hn : nF ≤ 16) (hi : i < ws.length) : ∀ (e j : Nat) (f : Nat → Int32) (C S : Nat), j + e = nF → (∀ k, k < j → f k = -1) →
    G X m_P_init 1 21 C S 31 [(0, .ref b), (1, .int x), (2, .int (nI nF)), (3, .int (nI j))] [] (ws.set i (b, .inr (5, [.ref q1, .ref q2, .int 0, .int 0, .int 0])) ++ [(q1, aI X nF f), (q2, aZ X nF (fun _ => 0))]) (pV (fun w => ∃ f, (∀ k, k < nF → f k = -1) ∧ w = ws.set i (b, .inr (5, [.ref q1, .ref q2, .int 0, .int 0, .int 0])) ++ [(q1, aI X nF f), (q2, aZ X nF (fun _ => 0))])) := by
  intro e
  induction e with
  | zero =>
    intro j f C S hj hf
    refine g_iload_n d_P_init_31 rfl ?_
    refine g_iload_n d_P_init_32 rfl ?_
    refine g_icmp_ge 49 d_P_init_33 (by decide) (fun _ => ?_) (fun hn => absurd ((nI_leI (by omega) (by omega)).mpr (by omega)) hn)
    exact g_vret d_P_init_49 rfl ⟨rfl, f, fun k hk => hf k (by omega), rfl⟩
  | succ e ih =>
    intro j f C S hj hf
    have hp : (ws.set i (b, .inr (5, [.ref q1, .ref q2, .int 0, .int 0, .int 0])) ++ [(q1, aI X nF f), (q2, aZ X nF (fun _ => 0))])[ws.length]? = some (q1, aI X nF f) := by
      rw [List.getElem?_append_right (by rw [List.length_set]; exact Nat.le_refl _), List.length_set, Nat.sub_self]; rfl
    refine g_iload_n d_P_init_31 rfl ?_
    refine g_iload_n d_P_init_32 rfl ?_
    refine g_icmp_ge 49 d_P_init_33 (by decide) (fun z => absurd ((nI_leI (by omega) (by omega)).mp z) (by omega)) (fun _ => ?_)
    refine g_aload_n d_P_init_36 rfl ?_
    refine g_getf g_P_20 d_P_init_37 (ge1 hi) rfl ?_
    refine g_iload_n d_P_init_40 rfl ?_
    refine g_iconst (-1) d_P_init_41 (by decide) ?_
    refine g_iast d_P_init_42 hp rfl (by omega) (by omega) ?_
    rw [List.set_append_right _ _ (by rw [List.length_set]; exact Nat.le_refl _), List.length_set, Nat.sub_self]
    refine g_iinc _ d_P_init_43 rfl (nIinc _) (by decide) ?_
    refine g_goto 31 d_P_init_46 (by decide) ?_
    exact ih (j + 1) (upd f j (-1)) C S (by omega) (fun k hk => by by_cases e : k = j; (rw [e, pk_us]); (rw [pk_un e]; exact hf k (by omega)))
theorem i_P {i b : Nat} {x : Int32} (h : ws[i]? = some (b, .inr (5, [.null, .null, .int 0, .int 0, .int 0]))) : G X m_P_init 1 21 2 32 0 (lv_args 0 [.ref b, .int x]) [] ws (pV (fun w => ∃ q1 q2 f, (∀ k, k < nFr x → f k = -1) ∧ w = ws.set i (b, .inr (5, [.ref q1, .ref q2, .int 0, .int 0, .int 0])) ++ [(q1, aI X (nFr x) f), (q2, aZ X (nFr x) (fun _ => 0))])) := by
  obtain ⟨n1, n2, n3⟩ := nFr_ok x
  refine g_aload_n d_P_init_0 rfl ?_
  refine g_obj w_134 w_28 w_29 d_P_init_1 (gq rfl) (gq rfl) (gq rfl) ?_
  refine g_iconst 2 d_P_init_4 (by decide) ?_
  refine g_bipush 16 d_P_init_5 (by decide) ?_
  refine g_iload_n d_P_init_7 rfl ?_
  refine g_mmin w_135 d_P_init_8 (gq rfl) (gq rfl) ?_
  refine g_mmax w_138 d_P_init_11 (gq rfl) (gq rfl) ?_
  rw [nFr_mm x]
  refine g_istore_n d_P_init_14 (by decide) ?_
  refine g_aload_n d_P_init_15 rfl ?_
  refine g_iload_n d_P_init_16 rfl ?_
  refine g_newI (j := nFr x) d_P_init_17 rfl (by omega) (by omega) (by omega) (fun q1 => ?_)
  refine g_putF p_P_20 rfl d_P_init_19 (ge0 h) rfl rfl (gq rfl) ?_
  rw [st0 (lt_of h)]
  refine g_aload_n d_P_init_22 rfl ?_
  refine g_iload_n d_P_init_23 rfl ?_
  refine g_newZ (j := nFr x) d_P_init_24 rfl (by omega) (by omega) (by omega) (fun q2 => ?_)
  rw [List.append_assoc]
  refine g_putF p_P_24 rfl d_P_init_26 (ge1 (lt_of h)) rfl rfl (gq rfl) ?_
  rw [st1 (lt_of h)]
  refine g_iconst 0 d_P_init_29 (by decide) ?_
  refine g_istore_n d_P_init_30 (by decide) ?_
  refine g_post (fun r w hw => ?_) (i_PGo (q1 := q1) (q2 := q2) n2 (lt_of h) (nFr x) 0 (fun _ => 0) _ _ (by omega) (fun k hk => absurd hk (by omega)))
  obtain ⟨e0, f, e1, e2⟩ := hw
  exact ⟨e0, q1, q2, f, e1, e2⟩
end CP
