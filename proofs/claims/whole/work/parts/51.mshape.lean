/-! The model: findShape, copyShape, remember -/
theorem kd_nat {x : Int32} (h : x = 0 ∨ x = 1 ∨ x = 2) : ∃ n, n < 3 ∧ x = nI n := by
  rcases h with rfl | rfl | rfl
  · exact ⟨0, by decide, rfl⟩
  · exact ⟨1, by decide, rfl⟩
  · exact ⟨2, by decide, rfl⟩
theorem kc_nat {K : Nat → Int32} {x y z : Nat} (h0 : K 0 = nI x) (h1 : K 1 = nI y) (h2 : K 2 = nI z) : kc K = nI (z * 9 + y * 3 + x) := by
  unfold kc
  rw [h0, h1, h2, show ((0 : Int32) * 3 + nI z) = nI z by rw [Int32.zero_mul, Int32.zero_add], show (3 : Int32) = nI 3 from rfl, pk_mul, nI_add, pk_mul, nI_add, show (z * 3 + y) * 3 + x = z * 9 + y * 3 + x by omega]
theorem kc_inj {K F T K' F' T' : Nat → Int32} (h : kOk K F T) (h' : kOk K' F' T') : kc K = kc K' ↔ (K 0 = K' 0 ∧ K 1 = K' 1 ∧ K 2 = K' 2) := by
  obtain ⟨x, x1, x2⟩ := kd_nat (h 0 (by decide)).1
  obtain ⟨y, y1, y2⟩ := kd_nat (h 1 (by decide)).1
  obtain ⟨z, z1, z2⟩ := kd_nat (h 2 (by decide)).1
  obtain ⟨x', x1', x2'⟩ := kd_nat (h' 0 (by decide)).1
  obtain ⟨y', y1', y2'⟩ := kd_nat (h' 1 (by decide)).1
  obtain ⟨z', z1', z2'⟩ := kd_nat (h' 2 (by decide)).1
  rw [kc_nat x2 y2 z2, kc_nat x2' y2' z2', x2, y2, z2, x2', y2', z2', nI_eq (by omega) (by omega), nI_eq (by omega) (by omega), nI_eq (by omega) (by omega), nI_eq (by omega) (by omega)]
  omega
-- the first c numbers of the shape fr copied to the shape to
def cpy (f : Nat → Int32) (to fr c : Nat) : Nat → Int32 := fun x => if 3 * to ≤ x ∧ x < 3 * to + c then f (3 * fr + (x - 3 * to)) else f x
theorem cpy_s {f : Nat → Int32} {to fr c : Nat} (hc : c < 3) : upd (cpy f to fr c) (3 * to + c) (cpy f to fr c (3 * fr + c)) = cpy f to fr (c + 1) := by
  funext x
  have h1 : cpy f to fr c (3 * fr + c) = f (3 * fr + c) := by
    unfold cpy
    split
    · rename_i z
      have : to = fr := by omega
      omega
    · rfl
  rw [h1]
  by_cases e : x = 3 * to + c
  · rw [e, pk_us]
    unfold cpy
    rw [if_pos (by omega), show 3 * to + c - 3 * to = c by omega]
  · rw [pk_un e]
    unfold cpy
    by_cases e2 : 3 * to ≤ x ∧ x < 3 * to + c
    · rw [if_pos e2, if_pos (by omega)]
    · rw [if_neg e2, if_neg (by omega)]
theorem cpy_in {f : Nat → Int32} {to fr j : Nat} (hj : j < 3) : cpy f to fr 3 (3 * to + j) = f (3 * fr + j) := by
  unfold cpy
  rw [if_pos (by omega), show 3 * to + j - 3 * to = j by omega]
theorem cpy_out {f : Nat → Int32} {to fr q j : Nat} (hj : j < 3) (hq : q ≠ to) : cpy f to fr 3 (3 * q + j) = f (3 * q + j) := by
  unfold cpy
  rw [if_neg (by omega)]
theorem mcA_cpy {KK FF TT : Nat → Int32} {to fr : Nat} {k : QC} (h : mcA KK FF TT fr k) : mcA (cpy KK to fr 3) (cpy FF to fr 3) (cpy TT to fr 3) to k := fun j hj => by
  rw [cpy_in hj, cpy_in hj, cpy_in hj]
  exact h j hj
theorem mcA_off {KK FF TT : Nat → Int32} {to fr q : Nat} {k : QC} (hq : q ≠ to) (h : mcA KK FF TT q k) : mcA (cpy KK to fr 3) (cpy FF to fr 3) (cpy TT to fr 3) q k := fun j hj => by
  rw [cpy_out hj hq, cpy_out hj hq, cpy_out hj hq]
  exact h j hj
section MSH
variable {X : gX} {a : Nat → Nat} {m : QM} {t : QT} {k : QC} {o : QO} {l : QL} {p : QP} {d : QD} {b : QB} {an n q : Nat}
theorem m_cpGo {to fr : Nat} {KK FF TT : Nat → Int32} (hto : to ≤ 8) (hfr : fr ≤ 8) {c0 : Nat → va_E} : ∀ (e j : Nat) (c : Nat → va_E), j + e = 3 → same c0 c [85, 86, 87] → c 79 = oM a m t o l p d b an → c 85 = aI X 27 (cpy KK to fr j) → c 86 = aI X 27 (cpy FF to fr j) → c 87 = aI X 27 (cpy TT to fr j) →
    GW X a m_M_copyShape 0 0 0 0 2 [(0, .ref (a 79)), (1, .int (nI to)), (2, .int (nI fr)), (3, .int (nI j))] [] c (pV (fun w => w 85 = aI X 27 (cpy KK to fr 3) ∧ w 86 = aI X 27 (cpy FF to fr 3) ∧ w 87 = aI X 27 (cpy TT to fr 3) ∧ same c0 w [85, 86, 87])) := by
  intro e
  induction e with
  | zero =>
    intro j c hj hs hM h1 h2 h3
    have hj3 : j = 3 := by omega
    subst hj3
    refine w_iload_n d_M_copyShape_2 rfl ?_
    refine w_iconst 3 d_M_copyShape_3 (by decide) ?_
    refine w_icmp_ge 73 d_M_copyShape_4 (by decide) (fun _ => ?_) (fun hn => absurd ((by decide)) hn)
    exact w_vret d_M_copyShape_73 rfl (⟨rfl, h1, h2, h3, hs⟩)
  | succ e ih =>
    intro j c hj hs hM h1 h2 h3
    refine w_iload_n d_M_copyShape_2 rfl ?_
    refine w_iconst 3 d_M_copyShape_3 (by decide) ?_
    refine w_icmp_ge 73 d_M_copyShape_4 (by decide) (fun hn => absurd hn (fun z => absurd ((nI_leI (a := 3) (b := j) (by decide) (by omega)).mp z) (by omega))) (fun _ => ?_)
    refine w_aload_n d_M_copyShape_7 rfl ?_
    refine w_getf g_M_30 d_M_copyShape_8 hM rfl (by decide) ?_
    refine w_iconst 3 d_M_copyShape_11 (by decide) ?_
    refine w_iload_n d_M_copyShape_12 rfl ?_
    refine w_imul d_M_copyShape_13 ?_
    refine w_iload_n d_M_copyShape_14 rfl ?_
    refine w_iadd d_M_copyShape_15 ?_
    rw [m3, nI_add]
    refine w_aload_n d_M_copyShape_16 rfl ?_
    refine w_getf g_M_30 d_M_copyShape_17 hM rfl (by decide) ?_
    refine w_iconst 3 d_M_copyShape_20 (by decide) ?_
    refine w_iload_n d_M_copyShape_21 rfl ?_
    refine w_imul d_M_copyShape_22 ?_
    refine w_iload_n d_M_copyShape_23 rfl ?_
    refine w_iadd d_M_copyShape_24 ?_
    rw [m3, nI_add]
    refine w_iald d_M_copyShape_25 h1 rfl (show 3 * fr + j < 27 by omega) (by decide) (by decide) ?_
    refine w_iast d_M_copyShape_26 h1 rfl (show 3 * to + j < 27 by omega) (by decide) (by decide) ?_
    rw [cpy_s (by omega)]
    refine w_aload_n d_M_copyShape_27 rfl ?_
    refine w_getf g_M_33 d_M_copyShape_28 (va_n (by decide) hM) rfl (by decide) ?_
    refine w_iconst 3 d_M_copyShape_31 (by decide) ?_
    refine w_iload_n d_M_copyShape_32 rfl ?_
    refine w_imul d_M_copyShape_33 ?_
    refine w_iload_n d_M_copyShape_34 rfl ?_
    refine w_iadd d_M_copyShape_35 ?_
    rw [m3, nI_add]
    refine w_aload_n d_M_copyShape_36 rfl ?_
    refine w_getf g_M_33 d_M_copyShape_37 (va_n (by decide) hM) rfl (by decide) ?_
    refine w_iconst 3 d_M_copyShape_40 (by decide) ?_
    refine w_iload_n d_M_copyShape_41 rfl ?_
    refine w_imul d_M_copyShape_42 ?_
    refine w_iload_n d_M_copyShape_43 rfl ?_
    refine w_iadd d_M_copyShape_44 ?_
    rw [m3, nI_add]
    refine w_iald d_M_copyShape_45 (va_n (by decide) h2) rfl (show 3 * fr + j < 27 by omega) (by decide) (by decide) ?_
    refine w_iast d_M_copyShape_46 (va_n (by decide) h2) rfl (show 3 * to + j < 27 by omega) (by decide) (by decide) ?_
    rw [cpy_s (by omega)]
    refine w_aload_n d_M_copyShape_47 rfl ?_
    refine w_getf g_M_36 d_M_copyShape_48 (va_n (by decide) (va_n (by decide) hM)) rfl (by decide) ?_
    refine w_iconst 3 d_M_copyShape_51 (by decide) ?_
    refine w_iload_n d_M_copyShape_52 rfl ?_
    refine w_imul d_M_copyShape_53 ?_
    refine w_iload_n d_M_copyShape_54 rfl ?_
    refine w_iadd d_M_copyShape_55 ?_
    rw [m3, nI_add]
    refine w_aload_n d_M_copyShape_56 rfl ?_
    refine w_getf g_M_36 d_M_copyShape_57 (va_n (by decide) (va_n (by decide) hM)) rfl (by decide) ?_
    refine w_iconst 3 d_M_copyShape_60 (by decide) ?_
    refine w_iload_n d_M_copyShape_61 rfl ?_
    refine w_imul d_M_copyShape_62 ?_
    refine w_iload_n d_M_copyShape_63 rfl ?_
    refine w_iadd d_M_copyShape_64 ?_
    rw [m3, nI_add]
    refine w_iald d_M_copyShape_65 (va_n (by decide) (va_n (by decide) h3)) rfl (show 3 * fr + j < 27 by omega) (by decide) (by decide) ?_
    refine w_iast d_M_copyShape_66 (va_n (by decide) (va_n (by decide) h3)) rfl (show 3 * to + j < 27 by omega) (by decide) (by decide) ?_
    rw [cpy_s (by omega)]
    first | refine w_iinc _ d_M_copyShape_67 rfl (nIinc _) (by decide) ?_ | refine w_iinc _ d_M_copyShape_67 rfl rfl (by decide) ?_
    refine w_goto 2 d_M_copyShape_70 (by decide) ?_
    exact ih (j + 1) _ (by omega) (same_trans hs (same_trans (same_trans (same_up (by simp)) (same_up (by simp))) (same_up (by simp)))) (va_n (by decide) (va_n (by decide) (va_n (by decide) hM))) rfl rfl rfl
variable {c : Nat → va_E}
theorem m_copy {to fr : Nat} {KK FF TT : Nat → Int32} (hto : to ≤ 8) (hfr : fr ≤ 8) (hM : c 79 = oM a m t o l p d b an) (h1 : c 85 = aI X 27 KK) (h2 : c 86 = aI X 27 FF) (h3 : c 87 = aI X 27 TT) :
    GW X a m_M_copyShape 0 0 0 0 0 (lv_args 0 [.ref (a 79), .int (nI to), .int (nI fr)]) [] c (pV (fun w => w 85 = aI X 27 (cpy KK to fr 3) ∧ w 86 = aI X 27 (cpy FF to fr 3) ∧ w 87 = aI X 27 (cpy TT to fr 3) ∧ same c w [85, 86, 87])) := by
  have e0 : ∀ f : Nat → Int32, f = cpy f to fr 0 := fun f => by funext x; unfold cpy; rw [if_neg (by omega)]
  refine w_iconst 0 d_M_copyShape_0 (by decide) ?_
  refine w_istore_n d_M_copyShape_1 (by decide) ?_
  exact m_cpGo hto hfr 3 0 c rfl same_rf hM (by rw [← e0]; exact h1) (by rw [← e0]; exact h2) (by rw [← e0]; exact h3)
-- how findShape answers
def shV (P : Nat) : Int32 := if P = 8 then -1 else nI (P + 1)
theorem m_fsGo {KK FF TT : Nat → Int32} (hd : d.1 ≤ 8) (hk : kOk k.1 k.2.1 k.2.2) (hdk : ∀ i, i < d.1 → kOk (d.2.2 i).1 (d.2.2 i).2.1 (d.2.2 i).2.2.1) (hM : c 79 = oM a m t o l p d b an) (h1 : c 85 = aI X 27 KK) (h4 : ∀ q, q ≤ d.1 → mcA KK FF TT q (cdQ k d q)) :
    ∀ (e j : Nat), j + e = d.1 → (fdGo (fun i => kc (d.2.2 i).1) (kc k.1) e j).getD d.1 = plQ d k → GW X a m_M_findShape 0 0 0 0 2 [(0, .ref (a 79)), (1, .int (nI (j + 1)))] [] c (pI (eI (shV (plQ d k)) c)) := by
  intro e
  induction e with
  | zero =>
    intro j hj he
    have hj' : j = d.1 := by omega
    have he' : d.1 = plQ d k := he
    refine w_iload_n d_M_findShape_2 rfl ?_
    refine w_aload_n d_M_findShape_3 rfl ?_
    refine w_getf g_M_187 d_M_findShape_4 hM rfl (by decide) ?_
    refine w_icmp_gt 73 d_M_findShape_7 (by decide) (fun _ => ?_) (fun hn => absurd ((by rw [hj']; exact nI_lt (Nat.lt_succ_self _) (by omega))) hn)
    refine w_aload_n d_M_findShape_73 rfl ?_
    refine w_getf g_M_187 d_M_findShape_74 hM rfl (by decide) ?_
    refine w_bipush 8 d_M_findShape_77 (by decide) ?_
    refine w_icmp_ne 86 d_M_findShape_79 (by decide) (fun h8 => ?_) (fun h8 => ?_)
    · -- taken
      have h8' : ¬ plQ d k = 8 := fun z => h8 (by rw [he', z]; rfl)
      refine w_aload_n d_M_findShape_86 rfl ?_
      refine w_getf g_M_187 d_M_findShape_87 hM rfl (by decide) ?_
      refine w_iconst 1 d_M_findShape_90 (by decide) ?_
      refine w_iadd d_M_findShape_91 ?_
      rw [nI_1]
      exact w_iret d_M_findShape_92 rfl (⟨_, rfl, by unfold shV; rw [if_neg h8', ← he'], rfl⟩)
    · -- not taken
      have h8' : plQ d k = 8 := by rw [← he']; exact (nI_eq (b := 8) (by omega) (by decide)).mp h8
      refine w_iconst (-1) d_M_findShape_82 (by decide) ?_
      refine w_goto 92 d_M_findShape_83 (by decide) ?_
      exact w_iret d_M_findShape_92 rfl (⟨_, rfl, by unfold shV; rw [if_pos h8'], rfl⟩)
  | succ e ih =>
    intro j hj he
    have hj' : j < d.1 := by omega
    have c0 := h4 0 (Nat.zero_le _)
    have cj := h4 (j + 1) (by omega)
    rw [cdQ_0] at c0
    rw [cdQ_s] at cj
    have i0 : KK 0 = k.1 0 := (c0 0 (by decide)).1
    have i1 : KK 1 = k.1 1 := (c0 1 (by decide)).1
    have i2 : KK 2 = k.1 2 := (c0 2 (by decide)).1
    have j0 : KK (3 * (j + 1)) = (d.2.2 j).1 0 := (cj 0 (by decide)).1
    have j1 : KK (3 * (j + 1) + 1) = (d.2.2 j).1 1 := (cj 1 (by decide)).1
    have j2 : KK (3 * (j + 1) + 2) = (d.2.2 j).1 2 := (cj 2 (by decide)).1
    have hin := kc_inj (hdk j hj') hk
    have no : ¬ kc (d.2.2 j).1 = kc k.1 → GW X a m_M_findShape 0 0 0 0 67 [(0, .ref (a 79)), (1, .int (nI (j + 1)))] [] c (pI (eI (shV (plQ d k)) c)) := by
      intro z
      have kk := ih (j + 1) (by omega) (by rw [← he]; show _ = (fdGo _ _ (e + 1) j).getD d.1; rw [fdGo, if_neg z])
      first | refine w_iinc _ d_M_findShape_67 rfl (nIinc _) (by decide) ?_ | refine w_iinc _ d_M_findShape_67 rfl rfl (by decide) ?_
      refine w_goto 2 d_M_findShape_70 (by decide) ?_
      exact kk
    refine w_iload_n d_M_findShape_2 rfl ?_
    refine w_aload_n d_M_findShape_3 rfl ?_
    refine w_getf g_M_187 d_M_findShape_4 hM rfl (by decide) ?_
    refine w_icmp_gt 73 d_M_findShape_7 (by decide) (fun hn => absurd hn (fun z => absurd ((nI_ltI (by omega) (by omega)).mp z) (by omega))) (fun _ => ?_)
    refine w_aload_n d_M_findShape_10 rfl ?_
    refine w_getf g_M_30 d_M_findShape_11 hM rfl (by decide) ?_
    refine w_iconst 3 d_M_findShape_14 (by decide) ?_
    refine w_iload_n d_M_findShape_15 rfl ?_
    refine w_imul d_M_findShape_16 ?_
    rw [m3]
    refine w_iald d_M_findShape_17 h1 rfl (show 3 * (j + 1) < 27 by omega) (by decide) (by decide) ?_
    refine w_aload_n d_M_findShape_18 rfl ?_
    refine w_getf g_M_30 d_M_findShape_19 hM rfl (by decide) ?_
    refine w_iconst 0 d_M_findShape_22 (by decide) ?_
    refine w_iald d_M_findShape_23 h1 (show (0 : Int32) = nI 0 from rfl) (by decide : 0 < 27) (by decide) (by decide) ?_
    rw [j0, i0]
    refine w_icmp_ne 67 d_M_findShape_24 (by decide) (fun z0 => ?_) (fun z0 => ?_)
    · -- taken
      exact no (fun z => z0 (hin.mp z).1)
    · -- not taken
      refine w_aload_n d_M_findShape_27 rfl ?_
      refine w_getf g_M_30 d_M_findShape_28 hM rfl (by decide) ?_
      refine w_iconst 3 d_M_findShape_31 (by decide) ?_
      refine w_iload_n d_M_findShape_32 rfl ?_
      refine w_imul d_M_findShape_33 ?_
      refine w_iconst 1 d_M_findShape_34 (by decide) ?_
      refine w_iadd d_M_findShape_35 ?_
      rw [m3, nI_1]
      refine w_iald d_M_findShape_36 h1 rfl (show 3 * (j + 1) + 1 < 27 by omega) (by decide) (by decide) ?_
      refine w_aload_n d_M_findShape_37 rfl ?_
      refine w_getf g_M_30 d_M_findShape_38 hM rfl (by decide) ?_
      refine w_iconst 1 d_M_findShape_41 (by decide) ?_
      refine w_iald d_M_findShape_42 h1 (show (1 : Int32) = nI 1 from rfl) (by decide : 1 < 27) (by decide) (by decide) ?_
      rw [j1, i1]
      refine w_icmp_ne 67 d_M_findShape_43 (by decide) (fun z1 => ?_) (fun z1 => ?_)
      · -- taken
        exact no (fun z => z1 (hin.mp z).2.1)
      · -- not taken
        refine w_aload_n d_M_findShape_46 rfl ?_
        refine w_getf g_M_30 d_M_findShape_47 hM rfl (by decide) ?_
        refine w_iconst 3 d_M_findShape_50 (by decide) ?_
        refine w_iload_n d_M_findShape_51 rfl ?_
        refine w_imul d_M_findShape_52 ?_
        refine w_iconst 2 d_M_findShape_53 (by decide) ?_
        refine w_iadd d_M_findShape_54 ?_
        rw [m3, show (2 : Int32) = nI 2 from rfl, nI_add]
        refine w_iald d_M_findShape_55 h1 rfl (show 3 * (j + 1) + 2 < 27 by omega) (by decide) (by decide) ?_
        refine w_aload_n d_M_findShape_56 rfl ?_
        refine w_getf g_M_30 d_M_findShape_57 hM rfl (by decide) ?_
        refine w_iconst 2 d_M_findShape_60 (by decide) ?_
        refine w_iald d_M_findShape_61 h1 (show (2 : Int32) = nI 2 from rfl) (by decide : 2 < 27) (by decide) (by decide) ?_
        rw [j2, i2]
        refine w_icmp_ne 67 d_M_findShape_62 (by decide) (fun z2 => ?_) (fun z2 => ?_)
        · -- taken
          exact no (fun z => z2 (hin.mp z).2.2)
        · -- not taken
          have hp : plQ d k = j := by rw [← he]; show (fdGo _ _ (e + 1) j).getD d.1 = j; rw [fdGo, if_pos (hin.mpr ⟨z0, z1, z2⟩)]; rfl
          refine w_iload_n d_M_findShape_65 rfl ?_
          exact w_iret d_M_findShape_66 rfl (⟨_, rfl, by unfold shV; rw [hp, if_neg (by omega)], rfl⟩)
theorem m_findShape (hd : d.1 ≤ 8) (hk : kOk k.1 k.2.1 k.2.2) (hdk : ∀ i, i < d.1 → kOk (d.2.2 i).1 (d.2.2 i).2.1 (d.2.2 i).2.2.1) (hM : c 79 = oM a m t o l p d b an) (hC : mC X c k d) : GW X a m_M_findShape 0 0 0 0 0 (lv_args 0 [.ref (a 79)]) [] c (pI (eI (shV (plQ d k)) c)) := by
  obtain ⟨KK, FF, TT, h1, h2, h3, h4⟩ := hC
  refine w_iconst 1 d_M_findShape_0 (by decide) ?_
  refine w_istore_n d_M_findShape_1 (by decide) ?_
  exact m_fsGo hd hk hdk hM h1 h4 d.1 0 (by omega) rfl
end MSH
