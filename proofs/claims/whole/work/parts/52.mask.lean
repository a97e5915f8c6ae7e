/-! The model: remember, ask -/
section MRM
variable {X : gX} {a : Nat → Nat} {m : QM} {t : QT} {k : QC} {o : QO} {l : QL} {p : QP} {d : QD} {b : QB} {an n q : Nat} {c : Nat → va_E}
theorem ntQ_C {KK FF TT : Nat → Int32} (hd : d.1 ≤ 8) (h8 : ¬ plQ d k = 8) (h4 : ∀ q, q ≤ d.1 → mcA KK FF TT q (cdQ k d q)) : ∀ q, q ≤ (ntQ d k).1 → mcA (cpy KK (plQ d k + 1) 0 3) (cpy FF (plQ d k + 1) 0 3) (cpy TT (plQ d k + 1) 0 3) q (cdQ k (ntQ d k) q) := by
  intro q hq
  have hle : plQ d k ≤ d.1 := plc_le
  have h0 := h4 0 (Nat.zero_le _)
  rw [cdQ_0] at h0
  unfold ntQ at hq ⊢
  rw [if_neg h8] at hq ⊢
  generalize plQ d k = P at *
  by_cases e : q = P + 1
  · subst e
    have e2 : cdQ k (if P = d.1 then d.1 + 1 else d.1, d.2.1, va_up d.2.2 P (k.1, k.2.1, k.2.2, (if P = d.1 then 0 else (d.2.2 P).2.2.2) + 16)) (P + 1) = k := by
      rw [cdQ_s]
      simp only [va_s]
    rw [e2]
    exact mcA_cpy h0
  · have e2 : cdQ k (if P = d.1 then d.1 + 1 else d.1, d.2.1, va_up d.2.2 P (k.1, k.2.1, k.2.2, (if P = d.1 then 0 else (d.2.2 P).2.2.2) + 16)) q = cdQ k d q := by
      cases q with
      | zero => rfl
      | succ q =>
        rw [cdQ_s, cdQ_s]
        have : q ≠ P := by omega
        simp only [va_n (f := d.2.2) this rfl]
    rw [e2]
    refine mcA_off e (h4 q ?_)
    simp only at hq
    split at hq <;> omega
theorem m_remember (hd : d.1 ≤ 8) (hk : kOk k.1 k.2.1 k.2.2) (hdk : ∀ i, i < d.1 → kOk (d.2.2 i).1 (d.2.2 i).2.1 (d.2.2 i).2.2.1) (hM : c 79 = oM a m t o l p d b an) (hC : mC X c k d) (hW : mW X c d) :
    GW X a m_M_remember 1 23 0 0 0 (lv_args 0 [.ref (a 79)]) [] c (pV (fun w => w 79 = oM a m t o l p (ntQ d k) b an ∧ mC X w k (ntQ d k) ∧ mW X w (ntQ d k) ∧ same c w [79, 85, 86, 87, 88])) := by
  have hle : plQ d k ≤ d.1 := plc_le
  have hC0 := hC
  obtain ⟨KK, FF, TT, h1, h2, h3, h4⟩ := hC
  obtain ⟨WW, w1, w2⟩ := hW
  rcases Classical.em (plQ d k = 8) with h8 | h8
  · have e : ntQ d k = d := by unfold ntQ; rw [if_pos h8]
    have e2 : shV (plQ d k) = -1 := by unfold shV; rw [if_pos h8]
    rw [e]
    refine w_aload_n d_M_remember_0 rfl ?_
    refine w_vI [] c_M_190 d_M_remember_1 rfl hM (by decide) (m_findShape hd hk hdk hM hC0) (fun x w hw => ?_) rfl rfl (gq rfl) (gq rfl) (gq rfl) (gq rfl) (gq rfl) (gq rfl)
    obtain ⟨rfl, rfl⟩ := hw
    rw [e2]
    refine w_istore_n d_M_remember_4 (by decide) ?_
    refine w_iload_n d_M_remember_5 rfl ?_
    refine w_if_ge 10 d_M_remember_6 (by decide) (fun hn => absurd hn ((by decide))) (fun _ => ?_)
    exact w_vret d_M_remember_9 rfl (⟨rfl, hM, hC0, ⟨WW, w1, w2⟩, same_rf⟩)
  · have e2 : shV (plQ d k) = nI (plQ d k + 1) := by unfold shV; rw [if_neg h8]
    have h5 := ntQ_C hd h8 h4
    have e3 : nI (plQ d k + 1) - 1 = nI (plQ d k) := nI_pred _
    have ed : ntQ d k = (if plQ d k = d.1 then d.1 + 1 else d.1, d.2.1, va_up d.2.2 (plQ d k) (k.1, k.2.1, k.2.2, (if plQ d k = d.1 then 0 else (d.2.2 (plQ d k)).2.2.2) + 16)) := by unfold ntQ; rw [if_neg h8]
    -- the weights
    have hWW : ∀ W0 : Nat → Int32, (∀ i, i < d.1 → i ≠ plQ d k → W0 i = nI (d.2.2 i).2.2.2) → W0 (plQ d k) = nI (if plQ d k = d.1 then 0 else (d.2.2 (plQ d k)).2.2.2) → ∀ i, i < (ntQ d k).1 → upd W0 (plQ d k) (W0 (plQ d k) + 16) i = nI ((ntQ d k).2.2 i).2.2.2 := by
      intro W0 z1 z2 i hi
      rw [ed] at hi ⊢
      simp only at hi ⊢
      by_cases e : i = plQ d k
      · rw [e, pk_us, z2, va_s, show (16 : Int32) = nI 16 from rfl, nI_add]
      · rw [pk_un e, va_n (f := d.2.2) e rfl]
        exact z1 i (by split at hi <;> omega) e
    rcases Classical.em (plQ d k = d.1) with hP | hP
    · have hM' : ∀ c' : Nat → va_E, c' 79 = oM a m t o l p (plQ d k + 1, d.2.1, d.2.2) b an → c' 79 = oM a m t o l p (ntQ d k) b an := fun c' z => by rw [ed, if_pos hP, ← hP]; exact z
      refine w_aload_n d_M_remember_0 rfl ?_
      refine w_vI [] c_M_190 d_M_remember_1 rfl hM (by decide) (m_findShape hd hk hdk hM hC0) (fun x w hw => ?_) rfl rfl (gq rfl) (gq rfl) (gq rfl) (gq rfl) (gq rfl) (gq rfl)
      obtain ⟨rfl, rfl⟩ := hw
      rw [e2]
      refine w_istore_n d_M_remember_4 (by decide) ?_
      refine w_iload_n d_M_remember_5 rfl ?_
      refine w_if_ge 10 d_M_remember_6 (by decide) (fun _ => ?_) (fun hn => absurd (nI_pos' (by omega)) hn)
      refine w_iload_n d_M_remember_10 rfl ?_
      refine w_aload_n d_M_remember_11 rfl ?_
      refine w_getf g_M_187 d_M_remember_12 hM rfl (by decide) ?_
      refine w_icmp_le 32 d_M_remember_15 (by decide) (fun hn => absurd hn (fun z => absurd ((nI_leI (by omega) (by omega)).mp z) (by omega))) (fun _ => ?_)
      refine w_aload_n d_M_remember_18 rfl ?_
      refine w_iload_n d_M_remember_19 rfl ?_
      refine w_putf p_M_187 d_M_remember_20 hM rfl rfl (gqL rfl) (by decide) ?_
      refine w_aload_n d_M_remember_23 rfl ?_
      refine w_getf g_M_45 d_M_remember_24 va_s rfl (by decide) ?_
      refine w_iload_n d_M_remember_27 rfl ?_
      refine w_iconst 1 d_M_remember_28 (by decide) ?_
      refine w_isub d_M_remember_29 ?_
      rw [e3]
      refine w_iconst 0 d_M_remember_30 (by decide) ?_
      refine w_iast d_M_remember_31 (va_n (by decide) w1) rfl (show plQ d k < 8 by omega) (by decide) (by decide) ?_
      refine w_aload_n d_M_remember_32 rfl ?_
      refine w_getf g_M_45 d_M_remember_33 (va_n (by decide) va_s) rfl (by decide) ?_
      refine w_iload_n d_M_remember_36 rfl ?_
      refine w_iconst 1 d_M_remember_37 (by decide) ?_
      refine w_isub d_M_remember_38 ?_
      rw [e3]
      refine w_aload_n d_M_remember_39 rfl ?_
      refine w_getf g_M_45 d_M_remember_40 (va_n (by decide) va_s) rfl (by decide) ?_
      refine w_iload_n d_M_remember_43 rfl ?_
      refine w_iconst 1 d_M_remember_44 (by decide) ?_
      refine w_isub d_M_remember_45 ?_
      rw [e3]
      refine w_iald d_M_remember_46 va_s rfl (show plQ d k < 8 by omega) (by decide) (by decide) ?_
      refine w_bipush 16 d_M_remember_47 (by decide) ?_
      refine w_iadd d_M_remember_49 ?_
      refine w_iast d_M_remember_50 va_s rfl (show plQ d k < 8 by omega) (by decide) (by decide) ?_
      refine w_aload_n d_M_remember_51 rfl ?_
      refine w_iload_n d_M_remember_52 rfl ?_
      refine w_iconst 0 d_M_remember_53 (by decide) ?_
      refine w_vV [_, _] c_M_193 d_M_remember_54 rfl (va_n (by decide) (va_n (by decide) va_s)) (by decide) (m_copy (to := plQ d k + 1) (fr := 0) (m := m) (t := t) (o := o) (l := l) (p := p) (d := (plQ d k + 1, d.2.1, d.2.2)) (b := b) (an := an) (KK := KK) (FF := FF) (TT := TT) (by omega) (by decide) rfl h1 h2 h3) (fun w hw => ?_) rfl rfl (gq rfl) (gq rfl) (gq rfl) (gq rfl) (gq rfl) (gq rfl)
      obtain ⟨q1, q2, q3, q4⟩ := hw
      exact w_vret d_M_remember_57 rfl (⟨rfl, hM' _ (q4 79 (by decide)), ⟨_, _, _, q1, q2, q3, h5⟩, ⟨_, q4 88 (by decide), hWW (upd WW (plQ d k) 0) (fun i hi e => by rw [pk_un e]; exact w2 i hi) (by rw [pk_us, if_pos hP]; rfl)⟩, same_trans (same_trans (same_trans (same_up (by simp)) (same_up (by simp))) (same_up (by simp))) (same_sub q4 (by simp))⟩)
    · have hM' : ∀ c' : Nat → va_E, c' 79 = oM a m t o l p d b an → c' 79 = oM a m t o l p (ntQ d k) b an := fun c' z => by rw [ed, if_neg hP]; exact z
      refine w_aload_n d_M_remember_0 rfl ?_
      refine w_vI [] c_M_190 d_M_remember_1 rfl hM (by decide) (m_findShape hd hk hdk hM hC0) (fun x w hw => ?_) rfl rfl (gq rfl) (gq rfl) (gq rfl) (gq rfl) (gq rfl) (gq rfl)
      obtain ⟨rfl, rfl⟩ := hw
      rw [e2]
      refine w_istore_n d_M_remember_4 (by decide) ?_
      refine w_iload_n d_M_remember_5 rfl ?_
      refine w_if_ge 10 d_M_remember_6 (by decide) (fun _ => ?_) (fun hn => absurd (nI_pos' (by omega)) hn)
      refine w_iload_n d_M_remember_10 rfl ?_
      refine w_aload_n d_M_remember_11 rfl ?_
      refine w_getf g_M_187 d_M_remember_12 hM rfl (by decide) ?_
      refine w_icmp_le 32 d_M_remember_15 (by decide) (fun _ => ?_) (fun hn => absurd ((nI_leI (by omega) (by omega)).mpr (by omega)) hn)
      refine w_aload_n d_M_remember_32 rfl ?_
      refine w_getf g_M_45 d_M_remember_33 hM rfl (by decide) ?_
      refine w_iload_n d_M_remember_36 rfl ?_
      refine w_iconst 1 d_M_remember_37 (by decide) ?_
      refine w_isub d_M_remember_38 ?_
      rw [e3]
      refine w_aload_n d_M_remember_39 rfl ?_
      refine w_getf g_M_45 d_M_remember_40 hM rfl (by decide) ?_
      refine w_iload_n d_M_remember_43 rfl ?_
      refine w_iconst 1 d_M_remember_44 (by decide) ?_
      refine w_isub d_M_remember_45 ?_
      rw [e3]
      refine w_iald d_M_remember_46 w1 rfl (show plQ d k < 8 by omega) (by decide) (by decide) ?_
      refine w_bipush 16 d_M_remember_47 (by decide) ?_
      refine w_iadd d_M_remember_49 ?_
      refine w_iast d_M_remember_50 w1 rfl (show plQ d k < 8 by omega) (by decide) (by decide) ?_
      refine w_aload_n d_M_remember_51 rfl ?_
      refine w_iload_n d_M_remember_52 rfl ?_
      refine w_iconst 0 d_M_remember_53 (by decide) ?_
      refine w_vV [_, _] c_M_193 d_M_remember_54 rfl (va_n (by decide) hM) (by decide) (m_copy (to := plQ d k + 1) (fr := 0) (KK := KK) (FF := FF) (TT := TT) (by omega) (by decide) (va_n (by decide) hM) (va_n (by decide) h1) (va_n (by decide) h2) (va_n (by decide) h3)) (fun w hw => ?_) rfl rfl (gq rfl) (gq rfl) (gq rfl) (gq rfl) (gq rfl) (gq rfl)
      obtain ⟨q1, q2, q3, q4⟩ := hw
      exact w_vret d_M_remember_57 rfl (⟨rfl, hM' _ ((q4 79 (by decide)).trans (va_n (by decide) hM)), ⟨_, _, _, q1, q2, q3, h5⟩, ⟨_, q4 88 (by decide), hWW WW (fun i hi _ => w2 i hi) (by rw [if_neg hP]; exact w2 _ (by omega))⟩, same_trans (same_up (by simp)) (same_sub q4 (by simp))⟩)
end MRM
section MAK
variable {X : gX} {a : Nat → Nat} {t : QT} {k : QC} {o : QO} {l : QL} {p : QP} {d : QD} {b : QB} {n q : Nat} {r : List Nat} {th : Int32}
-- all pages of the heap
theorem m_hpGo {m : QM} {an : Nat} (ht : t.1 ≤ 64) {c0 : Nat → va_E} {Post : gO → (Nat → va_E) → Prop} (next : ∀ c', same c0 c' [79, 89, 90] → c' 79 = oM a m t o l (tcL p (heapT (fours t.1))) d b an → mPk X c' (tcL p (heapT (fours t.1))) → GW X a m_M_ask 6 143 0 0 80 [(0, .ref (a 79))] [] c' Post) :
    ∀ (e j : Nat) (c : Nat → va_E), j + e = fours t.1 → same c0 c [79, 89, 90] → c 79 = oM a m t o l (tcL p (heapT j)) d b an → mPk X c (tcL p (heapT j)) → GW X a m_M_ask 6 143 0 0 47 [(0, .ref (a 79)), (1, .int (nI j))] [] c Post := by
  have hf : fours t.1 ≤ 16 := by unfold fours; omega
  intro e
  induction e with
  | zero =>
    intro j c hj hs hM hP
    have hj' : j = fours t.1 := by omega
    subst hj'
    refine w_iload_n d_M_ask_47 rfl ?_
    refine w_aload_n d_M_ask_48 rfl ?_
    refine w_vI [] c_M_162 d_M_ask_49 rfl hM (by decide) (m_heapPages hM ht) (fun x w hw => ?_) rfl rfl (gq rfl) (gq rfl) (gq rfl) (gq rfl) (gq rfl) (gq rfl)
    obtain ⟨rfl, rfl⟩ := hw
    refine w_icmp_ge 69 d_M_ask_52 (by decide) (fun _ => ?_) (fun hn => absurd ((Int32.le_refl _)) hn)
    refine w_goto 80 d_M_ask_69 (by decide) ?_
    exact w_sel [0] rfl (next c hs hM hP)
  | succ e ih =>
    intro j c hj hs hM hP
    have hh : heapT (j + 1) = heapT j ++ [(none, 0, j)] := by unfold heapT; rw [List.range_succ, List.map_append]; rfl
    refine w_iload_n d_M_ask_47 rfl ?_
    refine w_aload_n d_M_ask_48 rfl ?_
    refine w_vI [] c_M_162 d_M_ask_49 rfl hM (by decide) (m_heapPages hM ht) (fun x w hw => ?_) rfl rfl (gq rfl) (gq rfl) (gq rfl) (gq rfl) (gq rfl) (gq rfl)
    obtain ⟨rfl, rfl⟩ := hw
    refine w_icmp_ge 69 d_M_ask_52 (by decide) (fun hn => absurd hn (fun z => absurd ((nI_leI (by omega) (by omega)).mp z) (by omega))) (fun _ => ?_)
    refine w_aload_n d_M_ask_55 rfl ?_
    refine w_bipush 9 d_M_ask_56 (by decide) ?_
    refine w_iconst 0 d_M_ask_58 (by decide) ?_
    refine w_iload_n d_M_ask_59 rfl ?_
    refine w_vV [_, _, _] c_M_183 d_M_ask_60 rfl hM (by decide) (m_touchK (ob := none) (lv := 0) (pl := j) hM hP (fun j hj => by cases hj) (by decide) (by omega)) (fun w hw => ?_) rfl rfl (gq rfl) (gq rfl) (gq rfl) (gq rfl) (gq rfl) (gq rfl)
    obtain ⟨w1, w2, w3⟩ := hw
    rw [← tcL_app, ← hh] at w1 w2
    first | refine w_iinc _ d_M_ask_63 rfl (nIinc _) (by decide) ?_ | refine w_iinc _ d_M_ask_63 rfl rfl (by decide) ?_
    refine w_goto 47 d_M_ask_66 (by decide) ?_
    exact ih (j + 1) w (by omega) (same_trans hs w3) w1 w2
-- the answers are taken out of the sorted rows
theorem m_anGo {m : QM} {fr : Nat → Int32} {S : List Nat} (hS : ∀ x ∈ S, x < 64) (hSl : S.length ≤ 64) (hl : lay fr 0 S) (hrl : o.2.1 ≤ 64) (hm : m.2.1 = S.length) {c0 : Nat → va_E} {Post : gO → (Nat → va_E) → Prop}
    (next : ∀ (c' : Nat → va_E) (AA : Nat → Int32), same c0 c' [79, 91] → c' 79 = oM a m t o l p d b ((S.filter (fitR k.1 k.2.1 k.2.2 t.2.1)).take o.2.1).length → c' 91 = aI X 64 AA → lay AA 0 ((S.filter (fitR k.1 k.2.1 k.2.2 t.2.1)).take o.2.1) → GW X a m_M_ask 6 143 0 0 178 [(0, .ref (a 79))] [] c' Post) :
    ∀ (B A : List Nat) (c : Nat → va_E) (AA : Nat → Int32), S = A ++ B → same c0 c [79, 91] → mq X c t 0 k → c 92 = aI X 64 fr → c 79 = oM a m t o l p d b ((A.filter (fitR k.1 k.2.1 k.2.2 t.2.1)).take o.2.1).length → c 91 = aI X 64 AA → lay AA 0 ((A.filter (fitR k.1 k.2.1 k.2.2 t.2.1)).take o.2.1) →
      GW X a m_M_ask 6 143 0 0 96 [(0, .ref (a 79)), (1, .int (nI A.length))] [] c Post := by
  intro B
  induction B with
  | nil =>
    intro A c AA hS0 hs hQ hE hM hA hla
    have hSA : S = A := by rw [hS0, List.append_nil]
    rw [hSA] at next
    refine w_iload_n d_M_ask_96 rfl ?_
    refine w_aload_n d_M_ask_97 rfl ?_
    refine w_getf g_M_105 d_M_ask_98 hM rfl (by decide) ?_
    refine w_icmp_ge 178 d_M_ask_101 (by decide) (fun _ => ?_) (fun hn => absurd ((by rw [hm, hSA]; exact Int32.le_refl _)) hn)
    exact w_sel [0] rfl (next c AA hs hM hA hla)
  | cons x B ih =>
    intro A c AA hS0 hs hQ hE hM hA hla
    have hx : x < 64 := hS x (by rw [hS0]; simp)
    have hlA : A.length < S.length := by rw [hS0]; simp
    have hfx : fr A.length = nI x := by
      have := hl A.length hlA
      rw [Nat.zero_add] at this
      rw [this, hS0]
      simp [List.getD_eq_getElem?_getD]
    have hRl : ((A.filter (fitR k.1 k.2.1 k.2.2 t.2.1)).take o.2.1).length ≤ 64 := by rw [List.length_take]; omega
    have hR1 : (A.filter (fitR k.1 k.2.1 k.2.2 t.2.1)).length ≤ A.length := List.length_filter_le _ _
    have hAx : ∀ v : Bool, fitR k.1 k.2.1 k.2.2 t.2.1 x = v → (A ++ [x]).filter (fitR k.1 k.2.1 k.2.2 t.2.1) = A.filter (fitR k.1 k.2.1 k.2.2 t.2.1) ++ (if v then [x] else []) := fun v hv => by
      rw [List.filter_append]
      congr 1
      cases v <;> simp [hv]
    -- the row is passed
    have no : fitR k.1 k.2.1 k.2.2 t.2.1 x = false → GW X a m_M_ask 6 143 0 0 172 [(0, .ref (a 79)), (1, .int (nI A.length)), (2, .int (nI x))] [] c Post := by
      intro hf
      have e := hAx false hf
      simp only [List.append_nil, if_neg (show ¬ (false = true) by decide)] at e
      have kk := ih (A ++ [x]) c AA (by rw [hS0]; simp) hs hQ hE (by rw [e]; exact hM) hA (by rw [e]; exact hla)
      rw [show (A ++ [x]).length = A.length + 1 by simp] at kk
      first | refine w_iinc _ d_M_ask_172 rfl (nIinc _) (by decide) ?_ | refine w_iinc _ d_M_ask_172 rfl rfl (by decide) ?_
      refine w_goto 96 d_M_ask_175 (by decide) ?_
      exact w_sel [0, 1] rfl kk
    refine w_iload_n d_M_ask_96 rfl ?_
    refine w_aload_n d_M_ask_97 rfl ?_
    refine w_getf g_M_105 d_M_ask_98 hM rfl (by decide) ?_
    refine w_icmp_ge 178 d_M_ask_101 (by decide) (fun hn => absurd hn ((by rw [hm]; exact fun z => absurd ((nI_leI (by omega) (by omega)).mp z) (by omega)))) (fun _ => ?_)
    refine w_aload_n d_M_ask_104 rfl ?_
    refine w_getf g_M_208 d_M_ask_105 hM rfl (by decide) ?_
    refine w_aload_n d_M_ask_108 rfl ?_
    refine w_getf g_M_42 d_M_ask_109 hM rfl (by decide) ?_
    refine w_icmp_ge 178 d_M_ask_112 (by decide) (fun h1 => ?_) (fun h1 => ?_)
    · -- taken
      have h1' : o.2.1 ≤ ((A.filter (fitR k.1 k.2.1 k.2.2 t.2.1)).take o.2.1).length := (nI_leI (by omega) (by omega)).mp h1
      have hfu : (S.filter (fitR k.1 k.2.1 k.2.2 t.2.1)).take o.2.1 = (A.filter (fitR k.1 k.2.1 k.2.2 t.2.1)).take o.2.1 := by rw [List.length_take] at h1'; rw [hS0, List.filter_append, List.take_append_of_le_length (by omega)]
      rw [hfu] at next
      exact w_sel [0] rfl (next c AA hs hM hA hla)
    · -- not taken
      have h1' : ((A.filter (fitR k.1 k.2.1 k.2.2 t.2.1)).take o.2.1).length < o.2.1 := (nI_ltI (by omega) (by omega)).mp (nle_lt h1)
      have htk : (A.filter (fitR k.1 k.2.1 k.2.2 t.2.1)).take o.2.1 = A.filter (fitR k.1 k.2.1 k.2.2 t.2.1) := by rw [List.length_take] at h1'; exact List.take_of_length_le (by omega)
      rw [htk] at hM hla h1' hRl
      refine w_aload_n d_M_ask_115 rfl ?_
      refine w_getf g_M_63 d_M_ask_116 hM rfl (by decide) ?_
      refine w_iload_n d_M_ask_119 rfl ?_
      refine w_iald d_M_ask_120 hE rfl (show A.length < 64 by omega) (by decide) (by decide) ?_
      rw [hfx]
      refine w_istore_n d_M_ask_121 (by decide) ?_
      refine w_aload_n d_M_ask_122 rfl ?_
      refine w_iload_n d_M_ask_123 rfl ?_
      refine w_iconst 0 d_M_ask_124 (by decide) ?_
      refine w_iconst 0 d_M_ask_125 (by decide) ?_
      refine w_vI [_, _, _] c_M_140 d_M_ask_126 rfl hM (by decide) (m_fits (j := 0) hM hQ (Nat.zero_le _) hx (by decide)) (fun x w hw => ?_) rfl rfl (gq rfl) (gq rfl) (gq rfl) (gq rfl) (gq rfl) (gq rfl)
      obtain ⟨rfl, rfl⟩ := hw
      refine w_if_eq 172 d_M_ask_129 (by decide) (fun f0 => ?_) (fun f0 => ?_)
      · -- taken
        have f0' := bI_t.mp f0
        exact no (by unfold fitR; rw [colN (by decide)] at f0'; rw [show fitB k.1 k.2.1 k.2.2 0 (t.2.1 (3 * x)) = false from f0']; rfl)
      · -- not taken
        have f0' := bI_n.mp f0
        refine w_aload_n d_M_ask_132 rfl ?_
        refine w_iload_n d_M_ask_133 rfl ?_
        refine w_iconst 0 d_M_ask_134 (by decide) ?_
        refine w_iconst 1 d_M_ask_135 (by decide) ?_
        refine w_vI [_, _, _] c_M_140 d_M_ask_136 rfl hM (by decide) (m_fits (j := 1) hM hQ (Nat.zero_le _) hx (by decide)) (fun x w hw => ?_) rfl rfl (gq rfl) (gq rfl) (gq rfl) (gq rfl) (gq rfl) (gq rfl)
        obtain ⟨rfl, rfl⟩ := hw
        refine w_if_eq 172 d_M_ask_139 (by decide) (fun f1 => ?_) (fun f1 => ?_)
        · -- taken
          have f1' := bI_t.mp f1
          exact no (by unfold fitR; rw [colN (by decide)] at f1'; rw [f1']; simp)
        · -- not taken
          have f1' := bI_n.mp f1
          refine w_aload_n d_M_ask_142 rfl ?_
          refine w_iload_n d_M_ask_143 rfl ?_
          refine w_iconst 0 d_M_ask_144 (by decide) ?_
          refine w_iconst 2 d_M_ask_145 (by decide) ?_
          refine w_vI [_, _, _] c_M_140 d_M_ask_146 rfl hM (by decide) (m_fits (j := 2) hM hQ (Nat.zero_le _) hx (by decide)) (fun x w hw => ?_) rfl rfl (gq rfl) (gq rfl) (gq rfl) (gq rfl) (gq rfl) (gq rfl)
          obtain ⟨rfl, rfl⟩ := hw
          refine w_if_eq 172 d_M_ask_149 (by decide) (fun f2 => ?_) (fun f2 => ?_)
          · -- taken
            have f2' := bI_t.mp f2
            exact no (by unfold fitR; rw [colN (by decide)] at f2'; rw [f2']; simp)
          · -- not taken
            have f2' := bI_n.mp f2
            rw [colN (by decide)] at f0' f1' f2'
            have hf : fitR k.1 k.2.1 k.2.2 t.2.1 x = true := by unfold fitR; rw [show fitB k.1 k.2.1 k.2.2 0 (t.2.1 (3 * x)) = true from f0', f1', f2']; rfl
            have e := hAx true hf
            rw [if_pos rfl] at e
            have hlen : ((A ++ [x]).filter (fitR k.1 k.2.1 k.2.2 t.2.1)).length = (A.filter (fitR k.1 k.2.1 k.2.2 t.2.1)).length + 1 := by rw [e, List.length_append]; rfl
            have htk2 : ((A ++ [x]).filter (fitR k.1 k.2.1 k.2.2 t.2.1)).take o.2.1 = (A ++ [x]).filter (fitR k.1 k.2.1 k.2.2 t.2.1) := List.take_of_length_le (by omega)
            refine w_aload_n d_M_ask_152 rfl ?_
            refine w_getf g_M_57 d_M_ask_153 hM rfl (by decide) ?_
            refine w_aload_n d_M_ask_156 rfl ?_
            refine w_getf g_M_208 d_M_ask_157 hM rfl (by decide) ?_
            refine w_iload_n d_M_ask_160 rfl ?_
            refine w_iast d_M_ask_161 hA rfl (show (A.filter (fitR k.1 k.2.1 k.2.2 t.2.1)).length < 64 by omega) (by decide) (by decide) ?_
            refine w_aload_n d_M_ask_162 rfl ?_
            refine w_dup d_M_ask_163 rfl ?_
            refine w_getf g_M_208 d_M_ask_164 (va_n (by decide) hM) rfl (by decide) ?_
            refine w_iconst 1 d_M_ask_167 (by decide) ?_
            refine w_iadd d_M_ask_168 ?_
            rw [nI_1]
            refine w_putf p_M_208 d_M_ask_169 (va_n (by decide) hM) rfl rfl (gqL rfl) (by decide) ?_
            have kk := ih (A ++ [x]) (va_up (va_up c 91 (aI X 64 (upd AA (A.filter (fitR k.1 k.2.1 k.2.2 t.2.1)).length (nI x)))) 79 (oM a m t o l p d b ((A.filter (fitR k.1 k.2.1 k.2.2 t.2.1)).length + 1))) (upd AA (A.filter (fitR k.1 k.2.1 k.2.2 t.2.1)).length (nI x)) (by rw [hS0]; simp) (same_trans hs (same_trans (same_up (by simp)) (same_up (by simp)))) (hQ.keep (L := [79, 91]) (same_trans (same_up (by simp)) (same_up (by simp))) (by simp)) (va_n (by decide) (va_n (by decide) hE)) (by rw [htk2, hlen]; rfl) (va_n (by decide) va_s) (by rw [htk2, e]; exact lay_app.mpr ⟨lay_upd hla (Or.inr (by omega)), lay_one.mpr (by rw [Nat.zero_add]; exact pk_us)⟩)
            rw [show (A ++ [x]).length = A.length + 1 by simp] at kk
            first | refine w_iinc _ d_M_ask_172 rfl (nIinc _) (by decide) ?_ | refine w_iinc _ d_M_ask_172 rfl rfl (by decide) ?_
            refine w_goto 96 d_M_ask_175 (by decide) ?_
            exact w_sel [0, 1] rfl kk
end MAK
