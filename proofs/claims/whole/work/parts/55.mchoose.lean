/-! The model: findCosts, members, sumOf, choose, costOf -/
-- the model's number for a cost: 1000 where the index is no way
def cM (t : QT) (k : QC) (i : Nat) : Int32 := if k.1 (fN i) = 0 then 1000 else cst t k i
def mcs (t : QT) (d : QD) (CC : Nat → Int32) : Prop := CC 72 = nI (fours t.1) ∧ ∀ j, j < d.1 → ∀ i, i < 9 → CC (9 * j + i) = cM t (cS d j) i
theorem m9 (n : Nat) : (9 : Int32) * nI n = nI (9 * n) := by rw [show (9 : Int32) = nI 9 from rfl, pk_mul]
def pcn (m : Nat) : Nat → Nat
  | 0 => 0
  | k + 1 => pcn m k + m / 2 ^ k % 2
theorem pcn_9 : ∀ m, m < 512 → pcn m 9 = popc m := by decide +kernel
theorem wy_le {g : Nat → Int32} {hp : Int32} {m : Nat} : ∀ k, wyV g hp (wyGo g hp m k) ≤ hp
  | 0 => Int32.le_refl _
  | k + 1 => by
    unfold wyGo
    split
    · rename_i z
      exact Int32.le_trans (Int32.le_of_lt z.2.2) (wy_le k)
    · exact wy_le k
section MCH
variable {X : gX} {a : Nat → Nat} {m : QM} {t : QT} {k : QC} {o : QO} {l : QL} {p : QP} {d : QD} {b : QB} {n q : Nat} {r : List Nat} {th : Int32} {an : Nat}
theorem m_meGo {s : Nat} {c : Nat → va_E} (hs : s < 512) : ∀ (e i : Nat), i + e = 9 → GW X a m_M_members 0 0 0 0 4 [(0, .int (nI s)), (1, .int (nI (pcn s i))), (2, .int (nI i))] [] c (pI (eI (nI (popc s)) c)) := by
  intro e
  induction e with
  | zero =>
    intro i hi
    have hi' : i = 9 := by omega
    subst hi'
    refine w_iload_n d_M_members_4 rfl ?_
    refine w_bipush 9 d_M_members_5 (by decide) ?_
    refine w_icmp_ge 24 d_M_members_7 (by decide) (fun _ => ?_) (fun hn => absurd ((by decide)) hn)
    refine w_iload_n d_M_members_24 rfl ?_
    exact w_iret d_M_members_25 rfl (⟨_, rfl, by rw [pcn_9 s hs], rfl⟩)
  | succ e ih =>
    intro i hi
    have hb := bit_ok s hs i (by omega)
    have kk := ih (i + 1) (by omega)
    refine w_iload_n d_M_members_4 rfl ?_
    refine w_bipush 9 d_M_members_5 (by decide) ?_
    refine w_icmp_ge 24 d_M_members_7 (by decide) (fun hn => absurd hn (fun z => absurd ((nI_leI (a := 9) (by decide) (by omega)).mp z) (by omega))) (fun _ => ?_)
    refine w_iload_n d_M_members_10 rfl ?_
    refine w_iload_n d_M_members_11 rfl ?_
    refine w_iload_n d_M_members_12 rfl ?_
    refine w_ishr d_M_members_13 ?_
    refine w_iconst 1 d_M_members_14 (by decide) ?_
    refine w_iand d_M_members_15 ?_
    rw [hb]
    refine w_iadd d_M_members_16 ?_
    rw [nI_add]
    refine w_istore_n d_M_members_17 (by decide) ?_
    first | refine w_iinc _ d_M_members_18 rfl (nIinc _) (by decide) ?_ | refine w_iinc _ d_M_members_18 rfl rfl (by decide) ?_
    refine w_goto 4 d_M_members_21 (by decide) ?_
    exact kk
theorem m_members {s : Nat} {c : Nat → va_E} (hs : s < 512) : GW X a m_M_members 0 0 0 0 0 (lv_args 0 [.int (nI s)]) [] c (pI (eI (nI (popc s)) c)) := by
  refine w_iconst 0 d_M_members_0 (by decide) ?_
  refine w_istore_n d_M_members_1 (by decide) ?_
  refine w_iconst 0 d_M_members_2 (by decide) ?_
  refine w_istore_n d_M_members_3 (by decide) ?_
  exact m_meGo hs 9 0 rfl
-- the least of a shape within a set
theorem m_lsGo {s j : Nat} {P : Int64} {CC : Nat → Int32} {c : Nat → va_E} (ht : t.1 ≤ 64) (hs : s < 512) (hj : j < 8) (hM : c 79 = oM a m t o l p d b an) (hC : c 93 = aI X 73 CC) (hcs : ∀ i, i < 9 → CC (9 * j + i) = cM t (cS d j) i) {Post : gO → (Nat → va_E) → Prop}
    (next : GW X a m_M_sumOf 3 65 0 0 105 [(0, .ref (a 79)), (1, .int (nI s)), (2, .long P), (4, .int (nI j)), (5, .int (lsS t.2.2 t.2.1 t.1 (liv t) s (d.2.2 j)))] [] c Post) :
    ∀ (e i : Nat), i + e = 9 → GW X a m_M_sumOf 3 65 0 0 44 [(0, .ref (a 79)), (1, .int (nI s)), (2, .long P), (4, .int (nI j)), (5, .int (wyV (cst t (cS d j)) (nI (fours t.1)) (wyGo (cst t (cS d j)) (nI (fours t.1)) s i))), (6, .int (nI i))] [] c Post := by
  have hf : fours t.1 ≤ 16 := by unfold fours; omega
  intro e
  induction e with
  | zero =>
    intro i hi
    have hi' : i = 9 := by omega
    subst hi'
    refine w_iload d_M_sumOf_44 rfl ?_
    refine w_bipush 9 d_M_sumOf_46 (by decide) ?_
    refine w_icmp_ge 105 d_M_sumOf_48 (by decide) (fun _ => ?_) (fun hn => absurd ((by decide)) hn)
    exact w_sel [0, 1, 2, 4, 5] rfl next
  | succ e ih =>
    intro i hi
    have hb := bit_ok s hs i (by omega)
    have kk := ih (i + 1) (by omega)
    have hle := wy_le (g := cst t (cS d j)) (hp := nI (fours t.1)) (m := s) i
    have hci := hcs i (by omega)
    have no : ¬ (bit s i = true ∧ ¬ cst t (cS d j) i = -1 ∧ cst t (cS d j) i < wyV (cst t (cS d j)) (nI (fours t.1)) (wyGo (cst t (cS d j)) (nI (fours t.1)) s i)) → GW X a m_M_sumOf 3 65 0 0 95 [(0, .ref (a 79)), (1, .int (nI s)), (2, .long P), (4, .int (nI j)), (5, .int (wyV (cst t (cS d j)) (nI (fours t.1)) (wyGo (cst t (cS d j)) (nI (fours t.1)) s i))), (6, .int (nI i))] [] c Post := by
      intro z
      rw [wyGo, if_neg z] at kk
      refine w_iload d_M_sumOf_95 rfl ?_
      refine w_istore d_M_sumOf_97 (by decide) ?_
      first | refine w_iinc _ d_M_sumOf_99 rfl (nIinc _) (by decide) ?_ | refine w_iinc _ d_M_sumOf_99 rfl rfl (by decide) ?_
      refine w_goto 44 d_M_sumOf_102 (by decide) ?_
      exact kk
    refine w_iload d_M_sumOf_44 rfl ?_
    refine w_bipush 9 d_M_sumOf_46 (by decide) ?_
    refine w_icmp_ge 105 d_M_sumOf_48 (by decide) (fun hn => absurd hn (fun z => absurd ((nI_leI (a := 9) (by decide) (by omega)).mp z) (by omega))) (fun _ => ?_)
    refine w_iload_n d_M_sumOf_51 rfl ?_
    refine w_iload d_M_sumOf_52 rfl ?_
    refine w_ishr d_M_sumOf_54 ?_
    refine w_iconst 1 d_M_sumOf_55 (by decide) ?_
    refine w_iand d_M_sumOf_56 ?_
    rw [hb]
    refine w_iconst 1 d_M_sumOf_57 (by decide) ?_
    refine w_icmp_ne 95 d_M_sumOf_58 (by decide) (fun h1 => ?_) (fun h1 => ?_)
    · -- taken
      exact no (fun z => h1 (by have := z.1; unfold bit at this; rw [decide_eq_true_eq] at this; rw [this]; rfl))
    · -- not taken
      have h1' : bit s i = true := by unfold bit; rw [decide_eq_true_eq]; exact (nI_eq (b := 1) (by omega) (by decide)).mp h1
      refine w_aload_n d_M_sumOf_61 rfl ?_
      refine w_getf g_M_66 d_M_sumOf_62 hM rfl (by decide) ?_
      refine w_bipush 9 d_M_sumOf_65 (by decide) ?_
      refine w_iload d_M_sumOf_67 rfl ?_
      refine w_imul d_M_sumOf_69 ?_
      refine w_iload d_M_sumOf_70 rfl ?_
      refine w_iadd d_M_sumOf_72 ?_
      rw [m9, nI_add]
      refine w_iald d_M_sumOf_73 hC rfl (show 9 * j + i < 73 by omega) (by decide) (by decide) ?_
      rw [hci]
      refine w_iload d_M_sumOf_74 rfl ?_
      refine w_icmp_ge 95 d_M_sumOf_76 (by decide) (fun h2 => ?_) (fun h2 => ?_)
      · -- taken
        exact no (fun z => by by_cases e : (cS d j).1 (fN i) = 0; (exact z.2.1 (by show costX _ _ _ _ _ _ _ _ = _; unfold costX; rw [if_pos e])); (unfold cM at h2; rw [if_neg e] at h2; exact lt_nle z.2.2 h2))
      · -- not taken
        have h3 : ¬ (cS d j).1 (fN i) = 0 := fun e => by
          unfold cM at h2
          rw [if_pos e] at h2
          have h4 : (1000 : Int32) ≤ nI (fours t.1) := Int32.le_trans (Int32.le_of_lt (nle_lt h2)) hle
          have := (nI_leI (a := 1000) (by decide) (by omega)).mp h4
          omega
        have hcm : cM t (cS d j) i = cst t (cS d j) i := by unfold cM; rw [if_neg h3]
        rw [hcm] at h2
        have h4 : ¬ cst t (cS d j) i = -1 := by rw [cst_n h3]; exact nI_neg (by have := cstN_lt t (cS d j) i ht; omega)
        rw [wyGo, if_pos ⟨h1', h4, nle_lt h2⟩] at kk
        refine w_aload_n d_M_sumOf_79 rfl ?_
        refine w_getf g_M_66 d_M_sumOf_80 hM rfl (by decide) ?_
        refine w_bipush 9 d_M_sumOf_83 (by decide) ?_
        refine w_iload d_M_sumOf_85 rfl ?_
        refine w_imul d_M_sumOf_87 ?_
        refine w_iload d_M_sumOf_88 rfl ?_
        refine w_iadd d_M_sumOf_90 ?_
        rw [m9, nI_add]
        refine w_iald d_M_sumOf_91 hC rfl (show 9 * j + i < 73 by omega) (by decide) (by decide) ?_
        rw [hci, hcm]
        refine w_goto 97 d_M_sumOf_92 (by decide) ?_
        refine w_istore d_M_sumOf_97 (by decide) ?_
        first | refine w_iinc _ d_M_sumOf_99 rfl (nIinc _) (by decide) ?_ | refine w_iinc _ d_M_sumOf_99 rfl rfl (by decide) ?_
        refine w_goto 44 d_M_sumOf_102 (by decide) ?_
        exact kk
abbrev fSm (t : QT) (d : QD) (s : Nat) : Nat → Int64 := fun k => (nI (d.2.2 k).2.2.2).toInt64 * (lsS t.2.2 t.2.1 t.1 (liv t) s (d.2.2 k)).toInt64
theorem m_smGo {s : Nat} {P : Int64} {CC WW : Nat → Int32} {c : Nat → va_E} (ht : t.1 ≤ 64) (hd : d.1 ≤ 8) (hs : s < 512) (hM : c 79 = oM a m t o l p d b an) (hC : c 93 = aI X 73 CC) (hcs : mcs t d CC) (hW : c 88 = aI X 8 WW) (hww : ∀ i, i < d.1 → WW i = nI (d.2.2 i).2.2.2) :
    ∀ (e j : Nat), j + e = d.1 → GW X a m_M_sumOf 3 65 0 0 23 [(0, .ref (a 79)), (1, .int (nI s)), (2, .long (P + smGo (fSm t d s) j)), (4, .int (nI j))] [] c (pJ (eJ (P + smGo (fSm t d s) d.1) c)) := by
  intro e
  induction e with
  | zero =>
    intro j hj
    have hj' : j = d.1 := by omega
    subst hj'
    refine w_iload d_M_sumOf_23 rfl ?_
    refine w_aload_n d_M_sumOf_25 rfl ?_
    refine w_getf g_M_187 d_M_sumOf_26 hM rfl (by decide) ?_
    refine w_icmp_ge 126 d_M_sumOf_29 (by decide) (fun _ => ?_) (fun hn => absurd ((Int32.le_refl _)) hn)
    refine w_lload_n d_M_sumOf_126 rfl ?_
    exact w_lret d_M_sumOf_127 rfl (⟨_, rfl, rfl, rfl⟩)
  | succ e ih =>
    intro j hj
    have hjd : j < d.1 := by omega
    have kk := ih (j + 1) (by omega)
    have key : GW X a m_M_sumOf 3 65 0 0 105 [(0, .ref (a 79)), (1, .int (nI s)), (2, .long (P + smGo (fSm t d s) j)), (4, .int (nI j)), (5, .int (lsS t.2.2 t.2.1 t.1 (liv t) s (d.2.2 j)))] [] c (pJ (eJ (P + smGo (fSm t d s) d.1) c)) := by
      refine w_lload_n d_M_sumOf_105 rfl ?_
      refine w_aload_n d_M_sumOf_106 rfl ?_
      refine w_getf g_M_45 d_M_sumOf_107 hM rfl (by decide) ?_
      refine w_iload d_M_sumOf_110 rfl ?_
      refine w_iald d_M_sumOf_112 hW rfl (show j < 8 by omega) (by decide) (by decide) ?_
      rw [hww j hjd]
      refine w_i2l d_M_sumOf_113 ?_
      refine w_iload d_M_sumOf_114 rfl ?_
      refine w_i2l d_M_sumOf_116 ?_
      refine w_lmul d_M_sumOf_117 ?_
      refine w_ladd d_M_sumOf_118 ?_
      rw [Int64.add_assoc, show smGo (fSm t d s) j + (nI (d.2.2 j).2.2.2).toInt64 * (lsS t.2.2 t.2.1 t.1 (liv t) s (d.2.2 j)).toInt64 = smGo (fSm t d s) (j + 1) from rfl]
      refine w_lstore_n d_M_sumOf_119 (by decide) ?_
      first | refine w_iinc _ d_M_sumOf_120 rfl (nIinc _) (by decide) ?_ | refine w_iinc _ d_M_sumOf_120 rfl rfl (by decide) ?_
      refine w_goto 23 d_M_sumOf_123 (by decide) ?_
      exact w_sel [0, 1, 2, 4] rfl kk
    have kl := m_lsGo (X := X) (a := a) (c := c) (j := j) (s := s) ht hs (by omega) hM hC (hcs.2 j hjd) key 9 0 rfl
    refine w_iload d_M_sumOf_23 rfl ?_
    refine w_aload_n d_M_sumOf_25 rfl ?_
    refine w_getf g_M_187 d_M_sumOf_26 hM rfl (by decide) ?_
    refine w_icmp_ge 126 d_M_sumOf_29 (by decide) (fun hn => absurd hn (fun z => absurd ((nI_leI (by show d.1 < 2 ^ 31; omega) (by omega)).mp z) (by show ¬ d.1 ≤ j; omega))) (fun _ => ?_)
    refine w_aload_n d_M_sumOf_32 rfl ?_
    refine w_getf g_M_66 d_M_sumOf_33 hM rfl (by decide) ?_
    refine w_bipush 72 d_M_sumOf_36 (by decide) ?_
    refine w_iald d_M_sumOf_38 hC (show (72 : Int32) = nI 72 from rfl) (by decide : 72 < 73) (by decide) (by decide) ?_
    rw [hcs.1]
    refine w_istore d_M_sumOf_39 (by decide) ?_
    refine w_iconst 0 d_M_sumOf_41 (by decide) ?_
    refine w_istore d_M_sumOf_42 (by decide) ?_
    exact kl
theorem m_sumOf {s : Nat} {CC WW : Nat → Int32} {c : Nat → va_E} (ht : t.1 ≤ 64) (hd : d.1 ≤ 8) (hs : s < 512) (hM : c 79 = oM a m t o l p d b an) (hH : c 80 = aZ X 64 t.2.2) (hC : c 93 = aI X 73 CC) (hcs : mcs t d CC) (hW : c 88 = aI X 8 WW) (hww : ∀ i, i < d.1 → WW i = nI (d.2.2 i).2.2.2) :
    GW X a m_M_sumOf 3 65 0 0 0 (lv_args 0 [.ref (a 79), .int (nI s)]) [] c (pJ (eJ (setQ t d s) c)) := by
  have e0 : ∀ P : Int64, P = P + smGo (fSm t d s) 0 := fun P => (Int64.add_zero P).symm
  have e1 : (nI (popc s)).toInt64 * (nI d.2.1).toInt64 * (nI (hgt (leavesOf (liv t)) + 1)).toInt64 + smGo (fSm t d s) d.1 = setQ t d s := by
    show _ = smGo (fSm t d s) d.1 + (nI d.2.1).toInt64 * (nI (hgt (leavesOf (liv t)) + 1)).toInt64 * (nI (popc s)).toInt64
    rw [Int64.add_comm, Int64.mul_assoc, Int64.mul_comm (nI (popc s)).toInt64]
  refine w_iload_n d_M_sumOf_0 rfl ?_
  refine w_sI [_] c_M_214 d_M_sumOf_1 (m_members hs) (fun x w hw => ?_) rfl rfl (gq rfl) (gq rfl) (gq rfl) (gq rfl) (gq rfl) (gq rfl)
  obtain ⟨rfl, rfl⟩ := hw
  refine w_i2l d_M_sumOf_4 ?_
  refine w_aload_n d_M_sumOf_5 rfl ?_
  refine w_getf g_M_78 d_M_sumOf_6 hM rfl (by decide) ?_
  refine w_i2l d_M_sumOf_9 ?_
  refine w_lmul d_M_sumOf_10 ?_
  refine w_aload_n d_M_sumOf_11 rfl ?_
  refine w_vI [] c_M_126 d_M_sumOf_12 rfl hM (by decide) (m_height hM hH ht) (fun x w hw => ?_) rfl rfl (gq rfl) (gq rfl) (gq rfl) (gq rfl) (gq rfl) (gq rfl)
  obtain ⟨rfl, rfl⟩ := hw
  refine w_iconst 1 d_M_sumOf_15 (by decide) ?_
  refine w_iadd d_M_sumOf_16 ?_
  rw [nI_1]
  refine w_i2l d_M_sumOf_17 ?_
  refine w_lmul d_M_sumOf_18 ?_
  refine w_lstore_n d_M_sumOf_19 (by decide) ?_
  refine w_iconst 0 d_M_sumOf_20 (by decide) ?_
  refine w_istore d_M_sumOf_21 (by decide) ?_
  have kk := m_smGo (X := X) (a := a) (c := c) (P := (nI (popc s)).toInt64 * (nI d.2.1).toInt64 * (nI (hgt (leavesOf (liv t)) + 1)).toInt64) ht hd hs hM hC hcs hW hww d.1 0 (by omega)
  rw [← e0, e1] at kk
  exact kk
end MCH
