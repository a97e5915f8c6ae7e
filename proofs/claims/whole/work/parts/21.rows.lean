/-! RowList, Conditions; Table.add, remove, firstEntry -/
abbrev oR (a : Nat → Nat) (q cnt : Nat) : va_E := .inr (9, [.ref (a (q + 1)), .int (nI cnt)])
abbrev oC (a : Nat → Nat) (q : Nat) : va_E := .inr (2, [.ref (a (q + 1)), .ref (a (q + 2)), .ref (a (q + 3))])
-- the class's conditions: kinds, froms, tos at a place q
def cnd (X : gX) (a : Nat → Nat) (c : Nat → va_E) (q : Nat) (K F T : Nat → Int32) : Prop := c q = oC a q ∧ c (q + 1) = aI X 3 K ∧ c (q + 2) = aI X 3 F ∧ c (q + 3) = aI X 3 T
theorem bI_t {b : Bool} : bI b = 0 ↔ b = false := by cases b <;> decide
section RL
variable {X : gX} {a : Nat → Nat} {c : Nat → va_E} {ins rt : Nat} {v h : Nat → Int32}
theorem r_append {q cnt r : Nat} {f : Nat → Int32} (hR : c q = oR a q cnt) (hf : c (q + 1) = aI X 64 f) (hc : cnt < 64) (hq : q < 90) :
    GW X a m_R_append 0 0 0 0 0 (lv_args 0 [.ref (a q), .int (nI r)]) [] c (pV (eV (va_up (va_up c (q + 1) (aI X 64 (upd f cnt (nI r)))) q (oR a q (cnt + 1))))) := by
  have hR1 : va_up c (q + 1) (aI X 64 (upd f cnt (nI r))) q = oR a q cnt := va_n (by omega) hR
  refine w_aload_n d_R_append_0 rfl ?_
  refine w_getf g_R_15 d_R_append_1 hR rfl (by omega) ?_
  refine w_aload_n d_R_append_4 rfl ?_
  refine w_getf g_R_9 d_R_append_5 hR rfl (by omega) ?_
  refine w_alen d_R_append_8 hf (by omega) ?_
  refine w_icmp_ge 32 d_R_append_9 (by decide) (fun hn => absurd hn (fun z => absurd ((nI_leI (a := 64) (by decide) (by omega)).mp z) (by omega))) (fun _ => ?_)
  refine w_aload_n d_R_append_12 rfl ?_
  refine w_getf g_R_9 d_R_append_13 hR rfl (by omega) ?_
  refine w_aload_n d_R_append_16 rfl ?_
  refine w_getf g_R_15 d_R_append_17 hR rfl (by omega) ?_
  refine w_iload_n d_R_append_20 rfl ?_
  refine w_iast d_R_append_21 hf rfl hc (by decide) (by omega) ?_
  refine w_aload_n d_R_append_22 rfl ?_
  refine w_dup d_R_append_23 rfl ?_
  refine w_getf g_R_15 d_R_append_24 hR1 rfl (by omega) ?_
  refine w_iconst 1 d_R_append_27 (by decide) ?_
  refine w_iadd d_R_append_28 ?_
  rw [nI_1]
  refine w_putf p_R_15 d_R_append_29 hR1 rfl rfl (gqL rfl) (by omega) ?_
  exact w_vret d_R_append_32 rfl (⟨rfl, rfl⟩)
-- the inner loop: D has been moved one place up, E stands
theorem r_inner {q n k r : Nat} {f0 : Nat → Int32} {l T : List Nat} {fc gc : Int32} (hT : c 1 = oT a ins rt) (hV : c 2 = aI X 192 v) (hR : c q = oR a q n) (hq : q < 90) (hq3 : 3 < q)
    (hk : k < n) (hn : n ≤ 64) (hr : r < 64) (hfc : isCol fc) (hgc : isCol gc)
    {Post : gO → (Nat → va_E) → Prop} {lr : List Nat} (hlr : k + 1 + lr.length ≤ 64)
    (next : ∀ f' : Nat → Int32, lay f' 0 (insL (gtv v fc gc) r T).reverse → lay f' (k + 1) lr → GW X a m_R_sort 3 70 0 0 81 [(0, .ref (a q)), (1, .ref (a 1)), (2, .int fc), (3, .int gc), (4, .int (nI k)), (5, .int (nI r))] [] (va_up c (q + 1) (aI X 64 f')) Post) :
    ∀ (E D : List Nat) (f : Nat → Int32), T = D ++ E → T.length = k → (∀ x ∈ D, gtv v fc gc x r = true) → (∀ x ∈ E, x < 64) → lay f 0 E.reverse → lay f (E.length + 1) D.reverse → lay f (k + 1) lr →
      GW X a m_R_sort 3 70 0 0 25 [(0, .ref (a q)), (1, .ref (a 1)), (2, .int fc), (3, .int gc), (4, .int (nI k)), (5, .int (nI r)), (6, .int (nI E.length))] [] (va_up c (q + 1) (aI X 64 f)) Post := by
  intro E
  induction E with
  | nil =>
    intro D f hT0 hl hD hE h1 h2 h3
    have hlD : D.length = k := by rw [← hl, hT0]; simp
    have hfin : insL (gtv v fc gc) r T = D ++ r :: [] := by
      rw [hT0]
      exact insL_split hD (fun e E' h => by cases h)
    refine w_iload d_R_sort_25 rfl ?_
    refine w_if_le 72 d_R_sort_27 (by decide) (fun _ => ?_) (fun hn => absurd ((by decide)) hn)
    refine w_aload_n d_R_sort_72 rfl ?_
    refine w_getf g_R_9 d_R_sort_73 (va_n (by omega) hR) rfl (by omega) ?_
    refine w_iload d_R_sort_76 rfl ?_
    refine w_iload d_R_sort_78 rfl ?_
    refine w_iast d_R_sort_80 va_s rfl (by decide : 0 < 64) (by decide) (by omega) ?_
    rw [bx_uu]
    refine w_sel [0, 1, 2, 3, 4, 5] rfl (next _ ?_ ?_)
    · rw [hfin, List.reverse_append]; refine lay_app.mpr ⟨lay_one.mpr pk_us, lay_upd h2 (Or.inl (by simp))⟩
    · exact lay_upd h3 (Or.inl (by simp))
  | cons e E ih =>
    intro D f hT0 hl hD hE h1 h2 h3
    have hlE : D.length + (E.length + 1) = k := by rw [← hl, hT0]; simp
    have he : e < 64 := hE e List.mem_cons_self
    rw [List.reverse_cons] at h1
    obtain ⟨h4, h5⟩ := lay_app.mp h1
    rw [List.length_reverse, Nat.zero_add] at h5
    have h6 : f E.length = nI e := lay_one.mp h5
    have e1 : nI (E.length + 1) - 1 = nI E.length := nI_pred _
    have hTT : va_up c (q + 1) (aI X 64 f) 1 = oT a ins rt := va_n (by omega) hT
    have hVV : va_up c (q + 1) (aI X 64 f) 2 = aI X 192 v := va_n (by omega) hV
    have hRR : va_up c (q + 1) (aI X 64 f) q = oR a q n := va_n (by omega) hR
    show GW X a m_R_sort 3 70 0 0 25 [(0, .ref (a q)), (1, .ref (a 1)), (2, .int fc), (3, .int gc), (4, .int (nI k)), (5, .int (nI r)), (6, .int (nI (E.length + 1)))] [] (va_up c (q + 1) (aI X 64 f)) Post
    refine w_iload d_R_sort_25 rfl ?_
    refine w_if_le 72 d_R_sort_27 (by decide) (fun hn => absurd hn (nI_nle (by omega) (by omega))) (fun _ => ?_)
    refine w_aload_n d_R_sort_30 rfl ?_
    refine w_aload_n d_R_sort_31 rfl ?_
    refine w_getf g_R_9 d_R_sort_32 hRR rfl (by omega) ?_
    refine w_iload d_R_sort_35 rfl ?_
    refine w_iconst 1 d_R_sort_37 (by decide) ?_
    refine w_isub d_R_sort_38 ?_
    rw [e1]
    refine w_iald d_R_sort_39 va_s rfl (by omega) (by decide) (by omega) ?_
    rw [h6]
    refine w_iload d_R_sort_40 rfl ?_
    refine w_iload_n d_R_sort_42 rfl ?_
    refine w_iload_n d_R_sort_43 rfl ?_
    refine w_vI [_, _, _, _] c_R_19 d_R_sort_44 rfl hTT (by decide) (t_isAfter hTT hVV he hr hfc hgc) (fun x w hw => ?_) rfl rfl (gq rfl) (gq rfl) (gq rfl) (gq rfl) (gq rfl) (gq rfl)
    obtain ⟨rfl, rfl⟩ := hw
    refine w_if_eq 72 d_R_sort_47 (by decide) (fun hg => ?_) (fun hg => ?_)
    · -- taken
      have hgf := bI_t.mp hg
      have hfin : insL (gtv v fc gc) r T = D ++ r :: (e :: E) := by rw [hT0]; exact insL_split hD (fun e' E' h => by cases h; exact hgf)
      refine w_aload_n d_R_sort_72 rfl ?_
      refine w_getf g_R_9 d_R_sort_73 hRR rfl (by omega) ?_
      refine w_iload d_R_sort_76 rfl ?_
      refine w_iload d_R_sort_78 rfl ?_
      refine w_iast d_R_sort_80 va_s rfl (by omega) (by decide) (by omega) ?_
      rw [bx_uu]
      refine w_sel [0, 1, 2, 3, 4, 5] rfl (next _ ?_ ?_)
      · rw [hfin, List.reverse_append, List.reverse_cons, List.reverse_cons]
        refine lay_app.mpr ⟨lay_app.mpr ⟨lay_app.mpr ⟨lay_upd h4 (Or.inr (by simp)), lay_one.mpr ?_⟩, lay_one.mpr ?_⟩, ?_⟩
        · rw [pk_un (by simp), Nat.zero_add, List.length_reverse]; exact h6
        · rw [show 0 + (E.reverse ++ [e]).length = E.length + 1 by simp]; exact pk_us
        · have h7 := lay_upd (k := E.length + 1) (x := nI r) h2 (Or.inl (by simp))
          rw [show 0 + (E.reverse ++ [e] ++ [r]).length = (e :: E).length + 1 by simp]
          exact h7
      · exact lay_upd h3 (Or.inl (by omega))
    · -- not taken
      have hgt : gtv v fc gc e r = true := by cases hb : gtv v fc gc e r with | true => rfl | false => exact absurd (bI_t.mpr hb) hg
      refine w_aload_n d_R_sort_50 rfl ?_
      refine w_getf g_R_9 d_R_sort_51 hRR rfl (by omega) ?_
      refine w_iload d_R_sort_54 rfl ?_
      refine w_aload_n d_R_sort_56 rfl ?_
      refine w_getf g_R_9 d_R_sort_57 hRR rfl (by omega) ?_
      refine w_iload d_R_sort_60 rfl ?_
      refine w_iconst 1 d_R_sort_62 (by decide) ?_
      refine w_isub d_R_sort_63 ?_
      rw [e1]
      refine w_iald d_R_sort_64 va_s rfl (by omega) (by decide) (by omega) ?_
      rw [h6]
      refine w_iast d_R_sort_65 va_s rfl (by omega) (by decide) (by omega) ?_
      first | refine w_iinc _ d_R_sort_66 rfl (nIdec _) (by decide) ?_ | refine w_iinc _ d_R_sort_66 rfl rfl (by decide) ?_
      refine w_goto 25 d_R_sort_69 (by decide) ?_
      rw [bx_uu]
      refine w_sel [0, 1, 2, 3, 4, 5, 6] rfl (ih (D ++ [e]) _ ?_ hl ?_ (fun x hx => hE x (List.mem_cons_of_mem _ hx)) ?_ ?_ ?_)
      · rw [hT0]; simp
      · intro x hx; rcases List.mem_append.mp hx with hx | hx; exact hD x hx; rw [List.mem_singleton.mp hx]; exact hgt
      · exact lay_upd h4 (Or.inr (by simp))
      · rw [List.reverse_append]; refine lay_app.mpr ⟨lay_one.mpr pk_us, lay_upd h2 (Or.inl (by simp))⟩
      · exact lay_upd h3 (Or.inl (by omega))
theorem r_outer {q n : Nat} {l : List Nat} {fc gc : Int32} (hT : c 1 = oT a ins rt) (hV : c 2 = aI X 192 v) (hR : c q = oR a q n) (hq : q < 90) (hq3 : 3 < q) (hln : l.length = n) (hn : n ≤ 64) (hl64 : ∀ x ∈ l, x < 64) (hfc : isCol fc) (hgc : isCol gc) :
    ∀ (d k : Nat) (f : Nat → Int32), k + d = n → lay f 0 (srt (gtv v fc gc) (l.take k)).reverse → lay f k (l.drop k) → (srt (gtv v fc gc) (l.take k)).length = k → (∀ x ∈ srt (gtv v fc gc) (l.take k), x < 64) →
      GW X a m_R_sort 3 70 0 0 3 [(0, .ref (a q)), (1, .ref (a 1)), (2, .int fc), (3, .int gc), (4, .int (nI k))] [] (va_up c (q + 1) (aI X 64 f)) (pV (fun w => ∃ f', w = va_up c (q + 1) (aI X 64 f') ∧ lay f' 0 (srt (gtv v fc gc) l).reverse)) := by
  intro d
  induction d with
  | zero =>
    intro k f hk h1 h2 h3 h4
    have hRR : va_up c (q + 1) (aI X 64 f) q = oR a q n := va_n (by omega) hR
    rw [List.take_of_length_le (by omega)] at h1
    refine w_iload d_R_sort_3 rfl ?_
    refine w_aload_n d_R_sort_5 rfl ?_
    refine w_getf g_R_15 d_R_sort_6 hRR rfl (by omega) ?_
    refine w_icmp_ge 87 d_R_sort_9 (by decide) (fun _ => ?_) (fun hn => absurd ((nI_leI (by omega) (by omega)).mpr (by omega)) hn)
    exact w_vret d_R_sort_87 rfl (⟨rfl, f, rfl, h1⟩)
  | succ d ih =>
    intro k f hk h1 h2 h3 h4
    have hkl : k < l.length := by omega
    have hRR : va_up c (q + 1) (aI X 64 f) q = oR a q n := va_n (by omega) hR
    rw [drop_cons hkl] at h2
    obtain ⟨h5, h6⟩ := lay_cons.mp h2
    have hr := hl64 _ (getD_mem hkl)
    have hsn : srt (gtv v fc gc) (l.take (k + 1)) = insL (gtv v fc gc) (l.getD k 0) (srt (gtv v fc gc) (l.take k)) := by rw [take_snoc hkl, srt_snoc]
    refine w_iload d_R_sort_3 rfl ?_
    refine w_aload_n d_R_sort_5 rfl ?_
    refine w_getf g_R_15 d_R_sort_6 hRR rfl (by omega) ?_
    refine w_icmp_ge 87 d_R_sort_9 (by decide) (fun hn => absurd hn (fun z => absurd ((nI_leI (by omega) (by omega)).mp z) (by omega))) (fun _ => ?_)
    refine w_aload_n d_R_sort_12 rfl ?_
    refine w_getf g_R_9 d_R_sort_13 hRR rfl (by omega) ?_
    refine w_iload d_R_sort_16 rfl ?_
    refine w_iald d_R_sort_18 va_s rfl (by omega) (by decide) (by omega) ?_
    rw [h5]
    refine w_istore d_R_sort_19 (by decide) ?_
    refine w_iload d_R_sort_21 rfl ?_
    refine w_istore d_R_sort_23 (by decide) ?_
    have key := r_inner (X := X) (T := srt (gtv v fc gc) (l.take k)) (f0 := f) (l := l) (k := k) (r := l.getD k 0) hT hV hR hq hq3 (by omega) hn hr hfc hgc (lr := l.drop (k + 1)) (Post := pV (fun w => ∃ f', w = va_up c (q + 1) (aI X 64 f') ∧ lay f' 0 (srt (gtv v fc gc) l).reverse)) (by rw [List.length_drop]; omega) (fun f' g1 g2 => ?_) (srt (gtv v fc gc) (l.take k)) [] f rfl h3 (fun x hx => by cases hx) h4 h1 lay_nil h6
    · rw [h3] at key
      exact key
    first | refine w_iinc _ d_R_sort_81 rfl (nIinc _) (by decide) ?_ | refine w_iinc _ d_R_sort_81 rfl rfl (by decide) ?_
    refine w_goto 3 d_R_sort_84 (by decide) ?_
    refine w_sel [0, 1, 2, 3, 4] rfl (ih (k + 1) f' (by omega) (by rw [hsn]; exact g1) g2 (by rw [hsn, insL_len, h3]) (fun x hx => ?_))
    rw [hsn] at hx
    rcases insL_mem.mp hx with rfl | hx
    · exact hr
    · exact h4 x hx
theorem r_sort {q n : Nat} {l : List Nat} {f : Nat → Int32} {fc gc : Int32} (hT : c 1 = oT a ins rt) (hV : c 2 = aI X 192 v) (hR : c q = oR a q n) (hf : c (q + 1) = aI X 64 f) (hq : q < 90) (hq3 : 3 < q) (hln : l.length = n) (hn : n ≤ 64) (hl64 : ∀ x ∈ l, x < 64) (hfc : isCol fc) (hgc : isCol gc) (hlay : lay f 0 l) :
    GW X a m_R_sort 3 70 0 0 0 (lv_args 0 [.ref (a q), .ref (a 1), .int fc, .int gc]) [] c (pV (fun w => ∃ f', w = va_up c (q + 1) (aI X 64 f') ∧ lay f' 0 (srt (gtv v fc gc) l).reverse)) := by
  have hc : c = va_up c (q + 1) (aI X 64 f) := by
    funext j
    by_cases hj : j = q + 1
    · subst hj; rw [va_s]; exact hf
    · rw [va_n hj rfl]
  by_cases h0 : n = 0
  · have hl0 : l = [] := List.length_eq_zero_iff.mp (by omega)
    subst hl0
    refine w_iconst 1 d_R_sort_0 (by decide) ?_
    refine w_istore d_R_sort_1 (by decide) ?_
    refine w_iload d_R_sort_3 rfl ?_
    refine w_aload_n d_R_sort_5 rfl ?_
    refine w_getf g_R_15 d_R_sort_6 hR rfl (by omega) ?_
    refine w_icmp_ge 87 d_R_sort_9 (by decide) (fun _ => ?_) (fun hn => absurd ((nI_leI (b := 1) (by omega) (by decide)).mpr (by omega)) hn)
    exact w_vret d_R_sort_87 rfl (⟨rfl, f, hc, lay_nil⟩)
  · have h1 : 0 < l.length := by omega
    have e1 : l.take 1 = [l.getD 0 0] := by rw [take_snoc (k := 0) h1]; rfl
    have e2 : srt (gtv v fc gc) (l.take 1) = [l.getD 0 0] := by rw [e1]; rfl
    have h2 := hlay
    rw [show l = l.drop 0 from rfl, drop_cons h1] at h2
    obtain ⟨h3, h4⟩ := lay_cons.mp h2
    have key := r_outer (X := X) hT hV hR hq hq3 hln hn hl64 hfc hgc (n - 1) 1 f (by omega) (by rw [e2]; exact lay_one.mpr h3) h4 (by rw [e2]; rfl) (fun x hx => by rw [e2] at hx; rw [List.mem_singleton.mp hx]; exact hl64 _ (getD_mem h1))
    rw [← hc] at key
    refine w_iconst 1 d_R_sort_0 (by decide) ?_
    refine w_istore d_R_sort_1 (by decide) ?_
    exact key
end RL
