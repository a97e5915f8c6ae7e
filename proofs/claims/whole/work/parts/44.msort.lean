/-! The model: of, isBefore, sort, live, leaves, height, sizeOfIndex -/
section MO
variable {X : gX} {a : Nat → Nat} {c w : Nat → va_E} {m : QM} {t : QT} {k : QC} {o : QO} {l : QL} {p : QP} {d : QD} {b : QB} {an n : Nat}
theorem m_of {x : Nat} {q : Int32} (hM : c 79 = oM a m t o l p d b an) (hV : c 81 = aI X 192 t.2.1) (hx : x < 64) (hq : isCol q) : GW X a m_M_of 0 0 0 0 0 (lv_args 0 [.ref (a 79), .int (nI x), .int q]) [] c (pI (eI (colV t.2.1 x q) c)) := by
  rcases hq with rfl | ⟨j, hj, rfl⟩
  · skip
    refine w_iload_n d_M_of_0 rfl ?_
    refine w_if_ge 8 d_M_of_1 (by decide) (fun hn => absurd hn ((by decide))) (fun _ => ?_)
    refine w_iconst 0 d_M_of_4 (by decide) ?_
    refine w_goto 18 d_M_of_5 (by decide) ?_
    exact w_iret d_M_of_18 rfl (⟨_, rfl, rfl, rfl⟩)
  · have e : colV t.2.1 x (nI j) = t.2.1 (3 * x + j) := by rw [colV, if_neg (nI_neg (by omega)), nI_clamp (by omega)]
    refine w_iload_n d_M_of_0 rfl ?_
    refine w_if_ge 8 d_M_of_1 (by decide) (fun _ => ?_) (fun hn => absurd (nI_pos' (by omega)) hn)
    refine w_aload_n d_M_of_8 rfl ?_
    refine w_getf g_M_13 d_M_of_9 hM rfl (by decide) ?_
    refine w_iconst 3 d_M_of_12 (by decide) ?_
    refine w_iload_n d_M_of_13 rfl ?_
    refine w_imul d_M_of_14 ?_
    refine w_iload_n d_M_of_15 rfl ?_
    refine w_iadd d_M_of_16 ?_
    rw [m3, nI_add]
    refine w_iald d_M_of_17 hV rfl (by omega) (by decide) (by decide) ?_
    exact w_iret d_M_of_18 rfl (⟨_, rfl, e, rfl⟩)
theorem m_isBefore {x y : Nat} {f g : Int32} (hM : c 79 = oM a m t o l p d b an) (hV : c 81 = aI X 192 t.2.1) (hx : x < 64) (hyx : y < x) (hf : isCol f) (hg : isCol g) : GW X a m_M_isBefore 1 22 0 0 0 (lv_args 0 [.ref (a 79), .int (nI x), .int (nI y), .int f, .int g]) [] c (pI (eI (bI (gtv t.2.1 f g y x)) c)) := by
  refine w_aload_n d_M_isBefore_0 rfl ?_
  refine w_iload_n d_M_isBefore_1 rfl ?_
  refine w_iload_n d_M_isBefore_2 rfl ?_
  refine w_vI [_, _] c_M_101 d_M_isBefore_3 rfl hM (by decide) (m_of hM hV hx hf) (fun x w hw => ?_) rfl rfl (gq rfl) (gq rfl) (gq rfl) (gq rfl) (gq rfl) (gq rfl)
  obtain ⟨rfl, rfl⟩ := hw
  refine w_istore d_M_isBefore_6 (by decide) ?_
  refine w_aload_n d_M_isBefore_8 rfl ?_
  refine w_iload_n d_M_isBefore_9 rfl ?_
  refine w_iload_n d_M_isBefore_10 rfl ?_
  refine w_vI [_, _] c_M_101 d_M_isBefore_11 rfl hM (by decide) (m_of hM hV (show y < 64 by omega) hf) (fun x w hw => ?_) rfl rfl (gq rfl) (gq rfl) (gq rfl) (gq rfl) (gq rfl) (gq rfl)
  obtain ⟨rfl, rfl⟩ := hw
  refine w_istore d_M_isBefore_14 (by decide) ?_
  refine w_iload d_M_isBefore_16 rfl ?_
  refine w_iload d_M_isBefore_18 rfl ?_
  refine w_icmp_eq 36 d_M_isBefore_20 (by decide) (fun h1 => ?_) (fun h1 => ?_)
  · -- taken
    refine w_aload_n d_M_isBefore_36 rfl ?_
    refine w_iload_n d_M_isBefore_37 rfl ?_
    refine w_iload d_M_isBefore_38 rfl ?_
    refine w_vI [_, _] c_M_101 d_M_isBefore_40 rfl hM (by decide) (m_of hM hV hx hg) (fun x w hw => ?_) rfl rfl (gq rfl) (gq rfl) (gq rfl) (gq rfl) (gq rfl) (gq rfl)
    obtain ⟨rfl, rfl⟩ := hw
    refine w_istore d_M_isBefore_43 (by decide) ?_
    refine w_aload_n d_M_isBefore_45 rfl ?_
    refine w_iload_n d_M_isBefore_46 rfl ?_
    refine w_iload d_M_isBefore_47 rfl ?_
    refine w_vI [_, _] c_M_101 d_M_isBefore_49 rfl hM (by decide) (m_of hM hV (show y < 64 by omega) hg) (fun x w hw => ?_) rfl rfl (gq rfl) (gq rfl) (gq rfl) (gq rfl) (gq rfl) (gq rfl)
    obtain ⟨rfl, rfl⟩ := hw
    refine w_istore d_M_isBefore_52 (by decide) ?_
    refine w_iload d_M_isBefore_54 rfl ?_
    refine w_iload d_M_isBefore_56 rfl ?_
    refine w_icmp_eq 76 d_M_isBefore_58 (by decide) (fun h2 => ?_) (fun h2 => ?_)
    · -- taken
      refine w_iload_n d_M_isBefore_76 rfl ?_
      refine w_iload_n d_M_isBefore_77 rfl ?_
      refine w_icmp_ge 85 d_M_isBefore_78 (by decide) (fun _ => ?_) (fun hn => absurd ((nI_leI (by omega) (by omega)).mpr (by omega)) hn)
      have e : gtv t.2.1 f g y x = false := by simp [gtv, h1, h2]
      refine w_iconst 0 d_M_isBefore_85 (by decide) ?_
      exact w_zret (Or.inl rfl) d_M_isBefore_86 rfl ( ⟨_, rfl, by rw [e]; rfl, rfl⟩)
    · -- not taken
      refine w_iload d_M_isBefore_61 rfl ?_
      refine w_iload d_M_isBefore_63 rfl ?_
      refine w_icmp_ge 72 d_M_isBefore_65 (by decide) (fun h3 => ?_) (fun h3 => ?_)
      · -- taken
        have e : gtv t.2.1 f g y x = false := by simp [gtv, h1, le_nlt h3]
        refine w_iconst 0 d_M_isBefore_72 (by decide) ?_
        refine w_goto 86 d_M_isBefore_73 (by decide) ?_
        exact w_zret (Or.inl rfl) d_M_isBefore_86 rfl ( ⟨_, rfl, by rw [e]; rfl, rfl⟩)
      · -- not taken
        have e : gtv t.2.1 f g y x = true := by simp [gtv, h1, nle_lt h3]
        refine w_iconst 1 d_M_isBefore_68 (by decide) ?_
        refine w_goto 86 d_M_isBefore_69 (by decide) ?_
        exact w_zret (Or.inr rfl) d_M_isBefore_86 rfl ( ⟨_, rfl, by rw [e]; rfl, rfl⟩)
  · -- not taken
    refine w_iload d_M_isBefore_23 rfl ?_
    refine w_iload d_M_isBefore_25 rfl ?_
    refine w_icmp_ge 34 d_M_isBefore_27 (by decide) (fun h3 => ?_) (fun h3 => ?_)
    · -- taken
      have e : gtv t.2.1 f g y x = false := by unfold gtv; rw [decide_eq_false (le_nlt h3), decide_eq_false (fun z => h1 (Eq.symm z))]; rfl
      refine w_iconst 0 d_M_isBefore_34 (by decide) ?_
      exact w_zret (Or.inl rfl) d_M_isBefore_35 rfl ( ⟨_, rfl, by rw [e]; rfl, rfl⟩)
    · -- not taken
      have e : gtv t.2.1 f g y x = true := by simp [gtv, nle_lt h3]
      refine w_iconst 1 d_M_isBefore_30 (by decide) ?_
      refine w_goto 35 d_M_isBefore_31 (by decide) ?_
      exact w_zret (Or.inr rfl) d_M_isBefore_35 rfl ( ⟨_, rfl, by rw [e]; rfl, rfl⟩)
-- the inner loop of sort: D has been moved one place up, E stands
theorem m_inner {r : Nat} {T : List Nat} {f g : Int32} (hM : c 79 = oM a m t o l p d b an) (hV : c 81 = aI X 192 t.2.1) (hr : r < 64) (hlT : T.length < 64) (hf : isCol f) (hg : isCol g) {Post : gO → (Nat → va_E) → Prop}
    (next : ∀ f' : Nat → Int32, lay f' 0 (insL (gtv t.2.1 f g) r T).reverse → GW X a m_M_sort 2 48 0 0 84 [(0, .ref (a 79)), (1, .int f), (2, .int g), (3, .int (nI r))] [] (va_up c 92 (aI X 64 f')) Post) :
    ∀ (E D : List Nat) (fr : Nat → Int32), T = D ++ E → (∀ x ∈ D, gtv t.2.1 f g x r = true) → (∀ x ∈ E, x < r) → lay fr 0 E.reverse → lay fr (E.length + 1) D.reverse →
      GW X a m_M_sort 2 48 0 0 30 [(0, .ref (a 79)), (1, .int f), (2, .int g), (3, .int (nI r)), (4, .int (nI E.length))] [] (va_up c 92 (aI X 64 fr)) Post := by
  intro E
  induction E with
  | nil =>
    intro D fr hT0 hD hE h1 h2
    have hfin : insL (gtv t.2.1 f g) r T = D ++ r :: [] := by
      rw [hT0]
      exact insL_split hD (fun e E' h => by cases h)
    refine w_iload d_M_sort_30 rfl ?_
    refine w_if_le 76 d_M_sort_32 (by decide) (fun _ => ?_) (fun hn => absurd ((by decide)) hn)
    refine w_aload_n d_M_sort_76 rfl ?_
    refine w_getf g_M_63 d_M_sort_77 (va_n (by decide) hM) rfl (by decide) ?_
    refine w_iload d_M_sort_80 rfl ?_
    refine w_iload_n d_M_sort_82 rfl ?_
    refine w_iast d_M_sort_83 va_s rfl (by decide : 0 < 64) (by decide) (by decide) ?_
    rw [bx_uu]
    refine w_sel [0, 1, 2, 3] rfl (next _ ?_)
    rw [hfin, List.reverse_append]
    exact lay_app.mpr ⟨lay_one.mpr pk_us, lay_upd h2 (Or.inl (by simp))⟩
  | cons e E ih =>
    intro D fr hT0 hD hE h1 h2
    have hlE : D.length + (E.length + 1) = T.length := by rw [hT0]; simp
    have he : e < r := hE e List.mem_cons_self
    rw [List.reverse_cons] at h1
    obtain ⟨h4, h5⟩ := lay_app.mp h1
    rw [List.length_reverse, Nat.zero_add] at h5
    have h6 : fr E.length = nI e := lay_one.mp h5
    have e1 : nI (E.length + 1) - 1 = nI E.length := nI_pred _
    have hMM : va_up c 92 (aI X 64 fr) 79 = oM a m t o l p d b an := va_n (by decide) hM
    have hVV : va_up c 92 (aI X 64 fr) 81 = aI X 192 t.2.1 := va_n (by decide) hV
    show GW X a m_M_sort 2 48 0 0 30 [(0, .ref (a 79)), (1, .int f), (2, .int g), (3, .int (nI r)), (4, .int (nI (E.length + 1)))] [] (va_up c 92 (aI X 64 fr)) Post
    refine w_iload d_M_sort_30 rfl ?_
    refine w_if_le 76 d_M_sort_32 (by decide) (fun hn => absurd hn (nI_nle (by omega) (by omega))) (fun _ => ?_)
    refine w_aload_n d_M_sort_35 rfl ?_
    refine w_iload_n d_M_sort_36 rfl ?_
    refine w_aload_n d_M_sort_37 rfl ?_
    refine w_getf g_M_63 d_M_sort_38 hMM rfl (by decide) ?_
    refine w_iload d_M_sort_41 rfl ?_
    refine w_iconst 1 d_M_sort_43 (by decide) ?_
    refine w_isub d_M_sort_44 ?_
    rw [e1]
    refine w_iald d_M_sort_45 va_s rfl (by omega) (by decide) (by decide) ?_
    rw [h6]
    refine w_iload_n d_M_sort_46 rfl ?_
    refine w_iload_n d_M_sort_47 rfl ?_
    refine w_vI [_, _, _, _] c_M_108 d_M_sort_48 rfl hMM (by decide) (m_isBefore hMM hVV hr he hf hg) (fun x w hw => ?_) rfl rfl (gq rfl) (gq rfl) (gq rfl) (gq rfl) (gq rfl) (gq rfl)
    obtain ⟨rfl, rfl⟩ := hw
    refine w_if_eq 76 d_M_sort_51 (by decide) (fun hgg => ?_) (fun hgg => ?_)
    · -- taken
      have hgf := bI_t.mp hgg
      have hfin : insL (gtv t.2.1 f g) r T = D ++ r :: (e :: E) := by rw [hT0]; exact insL_split hD (fun e' E' h => by cases h; exact hgf)
      refine w_aload_n d_M_sort_76 rfl ?_
      refine w_getf g_M_63 d_M_sort_77 hMM rfl (by decide) ?_
      refine w_iload d_M_sort_80 rfl ?_
      refine w_iload_n d_M_sort_82 rfl ?_
      refine w_iast d_M_sort_83 va_s rfl (by omega) (by decide) (by decide) ?_
      rw [bx_uu]
      refine w_sel [0, 1, 2, 3] rfl (next _ ?_)
      rw [hfin, List.reverse_append, List.reverse_cons, List.reverse_cons]
      refine lay_app.mpr ⟨lay_app.mpr ⟨lay_app.mpr ⟨lay_upd h4 (Or.inr (by simp)), lay_one.mpr ?_⟩, lay_one.mpr ?_⟩, ?_⟩
      · rw [pk_un (by simp), Nat.zero_add, List.length_reverse]; exact h6
      · rw [show 0 + (E.reverse ++ [e]).length = E.length + 1 by simp]; exact pk_us
      · have h7 := lay_upd (k := E.length + 1) (x := nI r) h2 (Or.inl (by simp))
        rw [show 0 + (E.reverse ++ [e] ++ [r]).length = (e :: E).length + 1 by simp]
        exact h7
    · -- not taken
      have hgt : gtv t.2.1 f g e r = true := bI_n.mp hgg
      refine w_aload_n d_M_sort_54 rfl ?_
      refine w_getf g_M_63 d_M_sort_55 hMM rfl (by decide) ?_
      refine w_iload d_M_sort_58 rfl ?_
      refine w_aload_n d_M_sort_60 rfl ?_
      refine w_getf g_M_63 d_M_sort_61 hMM rfl (by decide) ?_
      refine w_iload d_M_sort_64 rfl ?_
      refine w_iconst 1 d_M_sort_66 (by decide) ?_
      refine w_isub d_M_sort_67 ?_
      rw [e1]
      refine w_iald d_M_sort_68 va_s rfl (by omega) (by decide) (by decide) ?_
      rw [h6]
      refine w_iast d_M_sort_69 va_s rfl (by omega) (by decide) (by decide) ?_
      first | refine w_iinc _ d_M_sort_70 rfl (nIdec _) (by decide) ?_ | refine w_iinc _ d_M_sort_70 rfl rfl (by decide) ?_
      refine w_goto 30 d_M_sort_73 (by decide) ?_
      rw [bx_uu]
      refine w_sel [0, 1, 2, 3, 4] rfl (ih (D ++ [e]) _ ?_ ?_ (fun x hx => hE x (List.mem_cons_of_mem _ hx)) ?_ ?_)
      · rw [hT0]; simp
      · intro x hx; rcases List.mem_append.mp hx with hx | hx; exact hD x hx; rw [List.mem_singleton.mp hx]; exact hgt
      · exact lay_upd h4 (Or.inr (by simp))
      · rw [List.reverse_append]; refine lay_app.mpr ⟨lay_one.mpr pk_us, lay_upd h2 (Or.inl (by simp))⟩
theorem m_outer {f g : Int32} {bg en : Nat} {e0 : Int32} (hi : t.1 ≤ 64) (hf : isCol f) (hg : isCol g) : ∀ (e i : Nat) (c : Nat → va_E) (fr : Nat → Int32), i + e = t.1 → c 79 = oM a (e0, (liveL t.2.2 i).length, bg, en) t o l p d b an → c 80 = aZ X 64 t.2.2 → c 81 = aI X 192 t.2.1 → c 92 = aI X 64 fr → lay fr 0 (srt (gtv t.2.1 f g) (liveL t.2.2 i)).reverse →
    GW X a m_M_sort 2 48 0 0 7 [(0, .ref (a 79)), (1, .int f), (2, .int g), (3, .int (nI i))] [] c (pV (fun w => w 79 = oM a (e0, liv t, bg, en) t o l p d b an ∧ (∃ fr, w 92 = aI X 64 fr ∧ lay fr 0 (srt (gtv t.2.1 f g) (liveL t.2.2 t.1)).reverse) ∧ same c w [79, 92])) := by
  intro e
  induction e with
  | zero =>
    intro i c fr hie hM hH hV hE hl
    have hit : i = t.1 := by omega
    subst hit
    refine w_iload_n d_M_sort_7 rfl ?_
    refine w_aload_n d_M_sort_8 rfl ?_
    refine w_getf g_M_75 d_M_sort_9 hM rfl (by decide) ?_
    refine w_icmp_ge 100 d_M_sort_12 (by decide) (fun _ => ?_) (fun hn => absurd ((nI_leI (by omega) (by omega)).mpr (Nat.le_refl _)) hn)
    exact w_vret d_M_sort_100 rfl (⟨rfl, hM, ⟨fr, hE, hl⟩, same_rf⟩)
  | succ e ih =>
    intro i c fr hie hM hH hV hE hl
    have hlen := srt_len (gtv_swo t.2.1 f g) (liveL t.2.2 i)
    have hle := liveL_len t.2.2 i
    have key : ¬ t.2.2 i = 0 → ∀ f' : Nat → Int32, lay f' 0 (insL (gtv t.2.1 f g) i (srt (gtv t.2.1 f g) (liveL t.2.2 i))).reverse → GW X a m_M_sort 2 48 0 0 84 [(0, .ref (a 79)), (1, .int f), (2, .int g), (3, .int (nI i))] [] (va_up c 92 (aI X 64 f')) (pV (fun w => w 79 = oM a (e0, liv t, bg, en) t o l p d b an ∧ (∃ fr, w 92 = aI X 64 fr ∧ lay fr 0 (srt (gtv t.2.1 f g) (liveL t.2.2 t.1)).reverse) ∧ same c w [79, 92])) := by
      intro h0 f' hl'
      have hs : liveL t.2.2 (i + 1) = liveL t.2.2 i ++ [i] := by rw [liveL_s, if_neg h0]
      have hss : srt (gtv t.2.1 f g) (liveL t.2.2 (i + 1)) = insL (gtv t.2.1 f g) i (srt (gtv t.2.1 f g) (liveL t.2.2 i)) := by rw [hs, srt_snoc]
      have hM1 : va_up c 92 (aI X 64 f') 79 = oM a (e0, (liveL t.2.2 i).length, bg, en) t o l p d b an := va_n (by decide) hM
      refine w_aload_n d_M_sort_84 rfl ?_
      refine w_dup d_M_sort_85 rfl ?_
      refine w_getf g_M_105 d_M_sort_86 hM1 rfl (by decide) ?_
      refine w_iconst 1 d_M_sort_89 (by decide) ?_
      refine w_iadd d_M_sort_90 ?_
      rw [nI_1]
      refine w_putf p_M_105 d_M_sort_91 hM1 rfl rfl (gqL rfl) (by decide) ?_
      first | refine w_iinc _ d_M_sort_94 rfl (nIinc _) (by decide) ?_ | refine w_iinc _ d_M_sort_94 rfl rfl (by decide) ?_
      refine w_goto 7 d_M_sort_97 (by decide) ?_
      refine w_post (fun r w hw => ?_) (ih (i + 1) _ f' (by omega) (by rw [hs, List.length_append]; rfl) (va_n (by decide) (va_n (by decide) hH)) (va_n (by decide) (va_n (by decide) hV)) (va_n (by decide) va_s) (by rw [hss]; exact hl'))
      obtain ⟨q0, q1, q2, q3⟩ := hw
      exact ⟨q0, q1, q2, same_trans (same_trans (same_up (by simp)) (same_up (by simp))) q3⟩
    have hc : c = va_up c 92 (aI X 64 fr) := by
      funext q
      by_cases hq : q = 92
      · subst hq; rw [va_s]; exact hE
      · rw [va_n hq rfl]
    refine w_iload_n d_M_sort_7 rfl ?_
    refine w_aload_n d_M_sort_8 rfl ?_
    refine w_getf g_M_75 d_M_sort_9 hM rfl (by decide) ?_
    refine w_icmp_ge 100 d_M_sort_12 (by decide) (fun hn => absurd hn (fun z => absurd ((nI_leI (by omega) (by omega)).mp z) (by omega))) (fun _ => ?_)
    refine w_aload_n d_M_sort_15 rfl ?_
    refine w_getf g_M_7 d_M_sort_16 hM rfl (by decide) ?_
    refine w_iload_n d_M_sort_19 rfl ?_
    refine w_zald d_M_sort_20 hH rfl (by omega) (by decide) (by decide) ?_
    refine w_if_eq 94 d_M_sort_21 (by decide) (fun h0 => ?_) (fun h0 => ?_)
    · -- taken
      have hs : liveL t.2.2 (i + 1) = liveL t.2.2 i := by rw [liveL_s, if_pos h0]
      first | refine w_iinc _ d_M_sort_94 rfl (nIinc _) (by decide) ?_ | refine w_iinc _ d_M_sort_94 rfl rfl (by decide) ?_
      refine w_goto 7 d_M_sort_97 (by decide) ?_
      exact ih (i + 1) c fr (by omega) (by rw [hs]; exact hM) hH hV hE (by rw [hs]; exact hl)
    · -- not taken
      have kk := m_inner (T := srt (gtv t.2.1 f g) (liveL t.2.2 i)) hM hV (by omega) (by omega) hf hg (key h0) (srt (gtv t.2.1 f g) (liveL t.2.2 i)) [] fr rfl (fun x hx => by cases hx) (fun x hx => liveL_lt ((srt_mem (gtv_swo t.2.1 f g) _ x).mp hx)) hl lay_nil
      rw [← hc, hlen] at kk
      refine w_aload_n d_M_sort_24 rfl ?_
      refine w_getf g_M_105 d_M_sort_25 hM rfl (by decide) ?_
      refine w_istore d_M_sort_28 (by decide) ?_
      exact kk
theorem m_sort {f g : Int32} {fr : Nat → Int32} (hM : c 79 = oM a m t o l p d b an) (hH : c 80 = aZ X 64 t.2.2) (hV : c 81 = aI X 192 t.2.1) (hE : c 92 = aI X 64 fr) (hi : t.1 ≤ 64) (hf : isCol f) (hg : isCol g) :
    GW X a m_M_sort 2 48 0 0 0 (lv_args 0 [.ref (a 79), .int f, .int g]) [] c (pV (fun w => w 79 = oM a (m.1, liv t, m.2.2) t o l p d b an ∧ (∃ fr, w 92 = aI X 64 fr ∧ lay fr 0 (srt (gtv t.2.1 f g) (liveL t.2.2 t.1)).reverse) ∧ same c w [79, 92])) := by
  refine w_aload_n d_M_sort_0 rfl ?_
  refine w_iconst 0 d_M_sort_1 (by decide) ?_
  refine w_putf p_M_105 d_M_sort_2 hM rfl rfl (gqL rfl) (by decide) ?_
  refine w_iconst 0 d_M_sort_5 (by decide) ?_
  refine w_istore_n d_M_sort_6 (by decide) ?_
  refine w_post (fun r w hw => ?_) (m_outer (e0 := m.1) (bg := m.2.2.1) (en := m.2.2.2) hi hf hg t.1 0 _ fr (by omega) rfl (va_n (by decide) hH) (va_n (by decide) hV) (va_n (by decide) hE) lay_nil)
  obtain ⟨q0, q1, q2, q3⟩ := hw
  exact ⟨q0, q1, q2, same_trans (same_up (by simp)) q3⟩
theorem m_lvGo (hM : c 79 = oM a m t o l p d b an) (hH : c 80 = aZ X 64 t.2.2) (hi : t.1 ≤ 64) : ∀ (e i : Nat), i + e = t.1 → GW X a m_M_live 0 0 0 0 4 [(0, .ref (a 79)), (1, .int (nI (liveL t.2.2 i).length)), (2, .int (nI i))] [] c (pI (eI (nI (liv t)) c)) := by
  intro e
  induction e with
  | zero =>
    intro i hie
    have hit : i = t.1 := by omega
    subst hit
    refine w_iload_n d_M_live_4 rfl ?_
    refine w_aload_n d_M_live_5 rfl ?_
    refine w_getf g_M_75 d_M_live_6 hM rfl (by decide) ?_
    refine w_icmp_ge 35 d_M_live_9 (by decide) (fun _ => ?_) (fun hn => absurd ((nI_leI (by omega) (by omega)).mpr (Nat.le_refl _)) hn)
    refine w_iload_n d_M_live_35 rfl ?_
    exact w_iret d_M_live_36 rfl (⟨_, rfl, rfl, rfl⟩)
  | succ e ih =>
    intro i hie
    have hs := liveL_s (h := t.2.2) (k := i)
    refine w_iload_n d_M_live_4 rfl ?_
    refine w_aload_n d_M_live_5 rfl ?_
    refine w_getf g_M_75 d_M_live_6 hM rfl (by decide) ?_
    refine w_icmp_ge 35 d_M_live_9 (by decide) (fun hn => absurd hn (fun z => absurd ((nI_leI (by omega) (by omega)).mp z) (by omega))) (fun _ => ?_)
    refine w_aload_n d_M_live_12 rfl ?_
    refine w_getf g_M_7 d_M_live_13 hM rfl (by decide) ?_
    refine w_iload_n d_M_live_16 rfl ?_
    refine w_zald d_M_live_17 hH rfl (by omega) (by decide) (by decide) ?_
    refine w_if_eq 27 d_M_live_18 (by decide) (fun h0 => ?_) (fun h0 => ?_)
    · -- taken
      rw [if_pos h0] at hs
      refine w_iload_n d_M_live_27 rfl ?_
      refine w_istore_n d_M_live_28 (by decide) ?_
      first | refine w_iinc _ d_M_live_29 rfl (nIinc _) (by decide) ?_ | refine w_iinc _ d_M_live_29 rfl rfl (by decide) ?_
      refine w_goto 4 d_M_live_32 (by decide) ?_
      rw [← hs]
      exact ih (i + 1) (by omega)
    · -- not taken
      rw [if_neg h0] at hs
      refine w_iload_n d_M_live_21 rfl ?_
      refine w_iconst 1 d_M_live_22 (by decide) ?_
      refine w_iadd d_M_live_23 ?_
      rw [nI_1, show (liveL t.2.2 i).length + 1 = (liveL t.2.2 (i + 1)).length by rw [hs, List.length_append]; rfl]
      refine w_goto 28 d_M_live_24 (by decide) ?_
      refine w_istore_n d_M_live_28 (by decide) ?_
      first | refine w_iinc _ d_M_live_29 rfl (nIinc _) (by decide) ?_ | refine w_iinc _ d_M_live_29 rfl rfl (by decide) ?_
      refine w_goto 4 d_M_live_32 (by decide) ?_
      exact ih (i + 1) (by omega)
theorem m_live (hM : c 79 = oM a m t o l p d b an) (hH : c 80 = aZ X 64 t.2.2) (hi : t.1 ≤ 64) : GW X a m_M_live 0 0 0 0 0 (lv_args 0 [.ref (a 79)]) [] c (pI (eI (nI (liv t)) c)) := by
  refine w_iconst 0 d_M_live_0 (by decide) ?_
  refine w_istore_n d_M_live_1 (by decide) ?_
  refine w_iconst 0 d_M_live_2 (by decide) ?_
  refine w_istore_n d_M_live_3 (by decide) ?_
  exact m_lvGo hM hH hi t.1 0 (by omega)
theorem m_leaves (hM : c 79 = oM a m t o l p d b an) (hH : c 80 = aZ X 64 t.2.2) (hi : t.1 ≤ 64) : GW X a m_M_leaves 1 22 0 0 0 (lv_args 0 [.ref (a 79)]) [] c (pI (eI (nI (leavesOf (liv t))) c)) := by
  have hl := liv_le t hi
  have hf : fours (liv t) ≤ 16 := by unfold fours; omega
  refine w_aload_n d_M_leaves_0 rfl ?_
  refine w_vI [] c_M_112 d_M_leaves_1 rfl hM (by decide) (m_live hM hH hi) (fun x w hw => ?_) rfl rfl (gq rfl) (gq rfl) (gq rfl) (gq rfl) (gq rfl) (gq rfl)
  obtain ⟨rfl, rfl⟩ := hw
  refine w_sI [_] c_M_116 d_M_leaves_4 (m_byFour (by omega)) (fun x w hw => ?_) rfl rfl (gq rfl) (gq rfl) (gq rfl) (gq rfl) (gq rfl) (gq rfl)
  obtain ⟨rfl, rfl⟩ := hw
  refine w_istore_n d_M_leaves_7 (by decide) ?_
  refine w_iload_n d_M_leaves_8 rfl ?_
  refine w_if_ne 16 d_M_leaves_9 (by decide) (fun h0 => ?_) (fun h0 => ?_)
  · -- taken
    have h0' : ¬ fours (liv t) = 0 := fun z => h0 (by rw [z]; rfl)
    refine w_iload_n d_M_leaves_16 rfl ?_
    exact w_iret d_M_leaves_17 rfl (⟨_, rfl, by unfold leavesOf; rw [if_neg h0'], rfl⟩)
  · -- not taken
    have h0' : fours (liv t) = 0 := (nI_eq (b := 0) (by omega) (by decide)).mp h0
    refine w_iconst 1 d_M_leaves_12 (by decide) ?_
    refine w_goto 17 d_M_leaves_13 (by decide) ?_
    exact w_iret d_M_leaves_17 rfl (⟨_, rfl, by unfold leavesOf; rw [if_pos h0']; rfl, rfl⟩)
theorem m_hLoop : ∀ (e j n : Nat), hgt n = e → n ≤ 16 → j + e ≤ 10 → GW X a m_M_height 2 43 0 0 7 [(0, .ref (a 79)), (1, .int (nI j)), (2, .int (nI n))] [] c (pI (eI (nI (j + e)) c)) := by
  intro e
  induction e with
  | zero =>
    intro j n hm hn hj
    have h1 := hgt_z hm
    refine w_iload_n d_M_height_7 rfl ?_
    refine w_iconst 1 d_M_height_8 (by decide) ?_
    refine w_icmp_le 23 d_M_height_9 (by decide) (fun _ => ?_) (fun hn => absurd ((nI_leI (by omega) (by decide)).mpr h1) hn)
    refine w_iload_n d_M_height_23 rfl ?_
    exact w_iret d_M_height_24 rfl (⟨_, rfl, rfl, rfl⟩)
  | succ e ih =>
    intro j n hm hn hj
    obtain ⟨h1, h2, h3, -⟩ := hgt_s hm hn
    refine w_iload_n d_M_height_7 rfl ?_
    refine w_iconst 1 d_M_height_8 (by decide) ?_
    refine w_icmp_le 23 d_M_height_9 (by decide) (fun hn => absurd hn (fun z => absurd ((nI_leI (b := 1) (by omega) (by decide)).mp z) (by omega))) (fun _ => ?_)
    first | refine w_iinc _ d_M_height_12 rfl (nIinc _) (by decide) ?_ | refine w_iinc _ d_M_height_12 rfl rfl (by decide) ?_
    refine w_iload_n d_M_height_15 rfl ?_
    refine w_sI [_] c_M_116 d_M_height_16 (m_byFour (by omega)) (fun x w hw => ?_) rfl rfl (gq rfl) (gq rfl) (gq rfl) (gq rfl) (gq rfl) (gq rfl)
    obtain ⟨rfl, rfl⟩ := hw
    refine w_istore_n d_M_height_19 (by decide) ?_
    refine w_goto 7 d_M_height_20 (by decide) ?_
    rw [show j + (e + 1) = j + 1 + e by omega]
    exact ih (j + 1) (fours n) h2 h3 (by omega)
theorem m_height (hM : c 79 = oM a m t o l p d b an) (hH : c 80 = aZ X 64 t.2.2) (hi : t.1 ≤ 64) : GW X a m_M_height 2 43 0 0 0 (lv_args 0 [.ref (a 79)]) [] c (pI (eI (nI (hgt (leavesOf (liv t)))) c)) := by
  have hl := leaves_le (liv_le t hi)
  have hh := hgt_le (leavesOf (liv t))
  refine w_iconst 0 d_M_height_0 (by decide) ?_
  refine w_istore_n d_M_height_1 (by decide) ?_
  refine w_aload_n d_M_height_2 rfl ?_
  refine w_vI [] c_M_120 d_M_height_3 rfl hM (by decide) (m_leaves hM hH hi) (fun x w hw => ?_) rfl rfl (gq rfl) (gq rfl) (gq rfl) (gq rfl) (gq rfl) (gq rfl)
  obtain ⟨rfl, rfl⟩ := hw
  refine w_istore_n d_M_height_6 (by decide) ?_
  have kk := m_hLoop (X := X) (a := a) (c := c) (hgt (leavesOf (liv t))) 0 (leavesOf (liv t)) rfl hl.1 (by omega)
  rw [Nat.zero_add] at kk
  exact kk
theorem m_zLoop : ∀ (e n z : Nat), hgt n = e → n ≤ 16 → GW X a m_M_sizeOfIndex 2 43 0 0 10 [(0, .ref (a 79)), (1, .int (nI (z + n))), (2, .int (nI n))] [] c (pI (eI (nI (z + szo n)) c)) := by
  intro e
  induction e with
  | zero =>
    intro n z hm hn
    have h1 := hgt_z hm
    have h2 : szo n = n := by unfold szo; rw [if_pos h1]
    rw [h2]
    refine w_iload_n d_M_sizeOfIndex_10 rfl ?_
    refine w_iconst 1 d_M_sizeOfIndex_11 (by decide) ?_
    refine w_icmp_le 30 d_M_sizeOfIndex_12 (by decide) (fun _ => ?_) (fun hn => absurd ((nI_leI (by omega) (by decide)).mpr h1) hn)
    refine w_iload_n d_M_sizeOfIndex_30 rfl ?_
    exact w_iret d_M_sizeOfIndex_31 rfl (⟨_, rfl, rfl, rfl⟩)
  | succ e ih =>
    intro n z hm hn
    obtain ⟨h1, h2, h3, h4⟩ := hgt_s hm hn
    refine w_iload_n d_M_sizeOfIndex_10 rfl ?_
    refine w_iconst 1 d_M_sizeOfIndex_11 (by decide) ?_
    refine w_icmp_le 30 d_M_sizeOfIndex_12 (by decide) (fun hn => absurd hn (fun z => absurd ((nI_leI (b := 1) (by omega) (by decide)).mp z) (by omega))) (fun _ => ?_)
    refine w_iload_n d_M_sizeOfIndex_15 rfl ?_
    refine w_iload_n d_M_sizeOfIndex_16 rfl ?_
    refine w_sI [_] c_M_116 d_M_sizeOfIndex_17 (m_byFour (by omega)) (fun x w hw => ?_) rfl rfl (gq rfl) (gq rfl) (gq rfl) (gq rfl) (gq rfl) (gq rfl)
    obtain ⟨rfl, rfl⟩ := hw
    refine w_iadd d_M_sizeOfIndex_20 ?_
    rw [nI_add]
    refine w_istore_n d_M_sizeOfIndex_21 (by decide) ?_
    refine w_iload_n d_M_sizeOfIndex_22 rfl ?_
    refine w_sI [_] c_M_116 d_M_sizeOfIndex_23 (m_byFour (by omega)) (fun x w hw => ?_) rfl rfl (gq rfl) (gq rfl) (gq rfl) (gq rfl) (gq rfl) (gq rfl)
    obtain ⟨rfl, rfl⟩ := hw
    refine w_istore_n d_M_sizeOfIndex_26 (by decide) ?_
    refine w_goto 10 d_M_sizeOfIndex_27 (by decide) ?_
    rw [h4, show z + (n + szo (fours n)) = (z + n) + szo (fours n) by omega]
    exact ih (fours n) (z + n) h2 h3
theorem m_size (hM : c 79 = oM a m t o l p d b an) (hH : c 80 = aZ X 64 t.2.2) (hi : t.1 ≤ 64) : GW X a m_M_sizeOfIndex 2 43 0 0 0 (lv_args 0 [.ref (a 79)]) [] c (pI (eI (nI (szo (leavesOf (liv t)))) c)) := by
  have hl := leaves_le (liv_le t hi)
  refine w_aload_n d_M_sizeOfIndex_0 rfl ?_
  refine w_vI [] c_M_120 d_M_sizeOfIndex_1 rfl hM (by decide) (m_leaves hM hH hi) (fun x w hw => ?_) rfl rfl (gq rfl) (gq rfl) (gq rfl) (gq rfl) (gq rfl) (gq rfl)
  obtain ⟨rfl, rfl⟩ := hw
  refine w_istore_n d_M_sizeOfIndex_4 (by decide) ?_
  refine w_aload_n d_M_sizeOfIndex_5 rfl ?_
  refine w_vI [] c_M_120 d_M_sizeOfIndex_6 rfl hM (by decide) (m_leaves hM hH hi) (fun x w hw => ?_) rfl rfl (gq rfl) (gq rfl) (gq rfl) (gq rfl) (gq rfl) (gq rfl)
  obtain ⟨rfl, rfl⟩ := hw
  refine w_istore_n d_M_sizeOfIndex_9 (by decide) ?_
  have kk := m_zLoop (X := X) (a := a) (c := c) (hgt (leavesOf (liv t))) (leavesOf (liv t)) 0 rfl hl.1
  simp only [Nat.zero_add] at kk
  exact kk
end MO
