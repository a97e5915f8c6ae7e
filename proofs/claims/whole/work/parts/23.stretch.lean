/-! Table.firstEntry; Stretch -/
def fN (i : Nat) : Nat := ([0, 1, 2, 0, 0, 1, 1, 2, 2] : List Nat).getD i 0
def scol (i : Nat) : Int32 := ([-1, -1, -1, 1, 2, 0, 2, 0, 1] : List Int32).getD i 0
theorem fN_lt {i : Nat} (h : i < 9) : fN i < 3 := by revert i; decide
theorem fN_col {i : Nat} (h : i < 9) : ([0, 1, 2, 0, 0, 1, 1, 2, 2] : List Int32).getD i 0 = nI (fN i) := by revert i; decide
theorem scol_col {i : Nat} (h : i < 9) : isCol (scol i) := by
  have key : ∀ i, i < 9 → scol i = -1 ∨ scol i = nI 0 ∨ scol i = nI 1 ∨ scol i = nI 2 := by decide
  rcases key i h with e | e | e | e
  · exact Or.inl e
  · exact Or.inr ⟨0, by decide, e⟩
  · exact Or.inr ⟨1, by decide, e⟩
  · exact Or.inr ⟨2, by decide, e⟩
abbrev oS (a : Nat → Nat) (f g : Int32) (sc : Bool) (bf : Nat) : va_E := .inr (3, [.ref (a 1), .ref (a 9), .int f, .int g, .int (bI sc), .int (nI bf)])
def befB (v F : Nat → Int32) (f g : Int32) (sc : Bool) (r : Nat) : Bool := decide (colV v r f < F f.toNatClampNeg) || (sc && (decide (colV v r f = F f.toNatClampNeg) && decide (colV v r g < F g.toNatClampNeg)))
def insB (K F T v : Nat → Int32) (f g : Int32) (sc : Bool) (r : Nat) : Bool := fitB K F T f.toNatClampNeg (colV v r f) && (!sc || fitB K F T g.toNatClampNeg (colV v r g))
def liveL (h : Nat → Int32) (k : Nat) : List Nat := (List.range k).filter (fun r => decide (¬ h r = 0))
theorem liveL_s {h : Nat → Int32} {k : Nat} : liveL h (k + 1) = if h k = 0 then liveL h k else liveL h k ++ [k] := by
  unfold liveL
  rw [List.range_succ, List.filter_append]
  by_cases e : h k = 0
  · rw [if_pos e]; simp [e]
  · rw [if_neg e]; simp [e]
theorem liveL_lt {h : Nat → Int32} {k r : Nat} (hr : r ∈ liveL h k) : r < k := List.mem_range.mp (List.mem_filter.mp hr).1
theorem liveL_len (h : Nat → Int32) (k : Nat) : (liveL h k).length ≤ k := by
  have := List.length_filter_le (fun r => decide (¬ h r = 0)) (List.range k)
  rw [List.length_range] at this
  exact this
def secB (K : Nat → Int32) (i : Nat) : Bool := decide (¬ scol i = -1) && (decide (K (fN i) = 1) && decide (¬ K (scol i).toNatClampNeg = 0))
theorem secB_col {K : Nat → Int32} {i : Nat} (hi : i < 9) (h : secB K i = true) : ∃ j, j < 3 ∧ scol i = nI j := by
  unfold secB at h
  rw [Bool.and_eq_true] at h
  rcases scol_col hi with e | ⟨j, hj, e⟩
  · rw [e] at h; exact absurd h.1 (by decide)
  · exact ⟨j, hj, e⟩
-- the rows of an index's stretch, and how many stand ahead of it
abbrev stB (v F K : Nat → Int32) (i r : Nat) : Bool := befB v F (nI (fN i)) (scol i) (secB K i) r
abbrev stI (v K F T : Nat → Int32) (i r : Nat) : Bool := !stB v F K i r && insB K F T v (nI (fN i)) (scol i) (secB K i) r
theorem colV_n {v : Nat → Int32} {r j : Nat} (h : j < 3) : colV v r (nI j) = v (3 * r + j) := by
  rw [colV, if_neg (nI_neg (by omega)), nI_clamp (by omega)]
theorem nI_c {j : Nat} (h : j < 3) : (nI j).toNatClampNeg = j := nI_clamp (by omega)
theorem feGo_lt {h : Nat → Int32} {gt : Nat → Nat → Bool} : ∀ {k l : Nat}, feGo h gt k = some l → l < k
  | 0, l, e => by cases e
  | k + 1, l, e => by
    unfold feGo at e
    split at e
    · have := feGo_lt e; omega
    · split at e
      · cases e; omega
      · rename_i l' hl
        have := feGo_lt hl
        split at e
        · cases e; omega
        · cases e; omega
section ST
variable {X : gX} {a : Nat → Nat} {c : Nat → va_E} {ins rt : Nat} {v h : Nat → Int32} {K F T : Nat → Int32} {q : Nat}
theorem t_feGo {f g : Int32} (hT : c 1 = oT a ins rt) (hV : c 2 = aI X 192 v) (hH : c 3 = aZ X 64 h) (hi : ins ≤ 64) (hf : isCol f) (hg : isCol g) : ∀ (d k : Nat), k + d = ins →
    GW X a m_T_firstEntry 3 70 0 0 5 [(0, .ref (a 1)), (1, .int f), (2, .int g), (3, .int (oI (feGo h (gtv v f g) k))), (4, .int (nI k))] [] c (pI (eI (oI (feGo h (gtv v f g) ins)) c)) := by
  intro d
  induction d with
  | zero =>
    intro k hk
    have e : k = ins := by omega
    subst e
    refine w_iload d_T_firstEntry_5 rfl ?_
    refine w_aload_n d_T_firstEntry_7 rfl ?_
    refine w_getf g_T_19 d_T_firstEntry_8 hT rfl (by decide) ?_
    refine w_icmp_ge 50 d_T_firstEntry_11 (by decide) (fun _ => ?_) (fun hn => absurd ((nI_leI (by omega) (by omega)).mpr (by omega)) hn)
    refine w_iload_n d_T_firstEntry_50 rfl ?_
    exact w_iret d_T_firstEntry_51 rfl (⟨_, rfl, rfl, rfl⟩)
  | succ d ih =>
    intro k hk
    have key := ih (k + 1) (by omega)
    refine w_iload d_T_firstEntry_5 rfl ?_
    refine w_aload_n d_T_firstEntry_7 rfl ?_
    refine w_getf g_T_19 d_T_firstEntry_8 hT rfl (by decide) ?_
    refine w_icmp_ge 50 d_T_firstEntry_11 (by decide) (fun hn => absurd hn (fun z => absurd ((nI_leI (by omega) (by omega)).mp z) (by omega))) (fun _ => ?_)
    refine w_aload_n d_T_firstEntry_14 rfl ?_
    refine w_getf g_T_15 d_T_firstEntry_15 hT rfl (by decide) ?_
    refine w_iload d_T_firstEntry_18 rfl ?_
    refine w_zald d_T_firstEntry_20 hH rfl (by omega) (by decide) (by decide) ?_
    refine w_if_eq 44 d_T_firstEntry_21 (by decide) (fun hz => ?_) (fun hz => ?_)
    · -- taken
      have e : feGo h (gtv v f g) (k + 1) = feGo h (gtv v f g) k := by rw [feGo, if_pos hz]
      rw [e] at key
      first | refine w_iinc _ d_T_firstEntry_44 rfl (nIinc _) (by decide) ?_ | refine w_iinc _ d_T_firstEntry_44 rfl rfl (by decide) ?_
      refine w_goto 5 d_T_firstEntry_47 (by decide) ?_
      exact key
    · -- not taken
      rcases ho : feGo h (gtv v f g) k with _ | l
      · -- case
        have e : feGo h (gtv v f g) (k + 1) = some k := by rw [feGo, if_neg hz, ho]
        rw [e] at key
        refine w_iload_n d_T_firstEntry_24 rfl ?_
        refine w_iconst (-1) d_T_firstEntry_25 (by decide) ?_
        refine w_icmp_eq 41 d_T_firstEntry_26 (by decide) (fun _ => ?_) (fun hn => absurd (rfl) hn)
        refine w_iload d_T_firstEntry_41 rfl ?_
        refine w_istore_n d_T_firstEntry_43 (by decide) ?_
        first | refine w_iinc _ d_T_firstEntry_44 rfl (nIinc _) (by decide) ?_ | refine w_iinc _ d_T_firstEntry_44 rfl rfl (by decide) ?_
        refine w_goto 5 d_T_firstEntry_47 (by decide) ?_
        exact key
      · -- case
        have hl := feGo_lt ho
        refine w_iload_n d_T_firstEntry_24 rfl ?_
        refine w_iconst (-1) d_T_firstEntry_25 (by decide) ?_
        refine w_icmp_eq 41 d_T_firstEntry_26 (by decide) (fun hn => absurd hn ((nI_neg (by omega)))) (fun _ => ?_)
        refine w_aload_n d_T_firstEntry_29 rfl ?_
        refine w_iload_n d_T_firstEntry_30 rfl ?_
        refine w_iload d_T_firstEntry_31 rfl ?_
        refine w_iload_n d_T_firstEntry_33 rfl ?_
        refine w_iload_n d_T_firstEntry_34 rfl ?_
        refine w_vI [_, _, _, _] c_T_47 d_T_firstEntry_35 rfl hT (by decide) (t_isAfter (r := l) (o := k) hT hV (by omega) (by omega) hf hg) (fun x w hw => ?_) rfl rfl (gq rfl) (gq rfl) (gq rfl) (gq rfl) (gq rfl) (gq rfl)
        obtain ⟨rfl, rfl⟩ := hw
        refine w_if_eq 44 d_T_firstEntry_38 (by decide) (fun hb => ?_) (fun hb => ?_)
        · -- taken
          have e : feGo h (gtv v f g) (k + 1) = some l := by rw [feGo, if_neg hz, ho]; simp [bI_t.mp hb]
          rw [e] at key
          first | refine w_iinc _ d_T_firstEntry_44 rfl (nIinc _) (by decide) ?_ | refine w_iinc _ d_T_firstEntry_44 rfl rfl (by decide) ?_
          refine w_goto 5 d_T_firstEntry_47 (by decide) ?_
          exact key
        · -- not taken
          have e : feGo h (gtv v f g) (k + 1) = some k := by rw [feGo, if_neg hz, ho]; simp [bI_n.mp hb]
          rw [e] at key
          refine w_iload d_T_firstEntry_41 rfl ?_
          refine w_istore_n d_T_firstEntry_43 (by decide) ?_
          first | refine w_iinc _ d_T_firstEntry_44 rfl (nIinc _) (by decide) ?_ | refine w_iinc _ d_T_firstEntry_44 rfl rfl (by decide) ?_
          refine w_goto 5 d_T_firstEntry_47 (by decide) ?_
          exact key
theorem t_firstEntry {f g : Int32} (hT : c 1 = oT a ins rt) (hV : c 2 = aI X 192 v) (hH : c 3 = aZ X 64 h) (hi : ins ≤ 64) (hf : isCol f) (hg : isCol g) : GW X a m_T_firstEntry 3 70 0 0 0 (lv_args 0 [.ref (a 1), .int f, .int g]) [] c (pI (eI (oI (feGo h (gtv v f g) ins)) c)) := by
  refine w_iconst (-1) d_T_firstEntry_0 (by decide) ?_
  refine w_istore_n d_T_firstEntry_1 (by decide) ?_
  refine w_iconst 0 d_T_firstEntry_2 (by decide) ?_
  refine w_istore d_T_firstEntry_3 (by decide) ?_
  exact t_feGo hT hV hH hi hf hg ins 0 (by omega)
theorem s_isBefore {jf r bf : Nat} {g : Int32} {sc : Bool} (hS : c 8 = oS a (nI jf) g sc bf) (hT : c 1 = oT a ins rt) (hV : c 2 = aI X 192 v) (hC : cnd X a c q K F T) (hq : q < 90) (hr : r < 64) (hjf : jf < 3) (hsc : sc = true → ∃ j, j < 3 ∧ g = nI j) :
    GW X a m_S_isBefore 1 22 0 0 0 (lv_args 0 [.ref (a 8), .ref (a q), .int (nI r)]) [] c (pI (eI (bI (befB v F (nI jf) g sc r)) c)) := by
  obtain ⟨h1, h2, h3, h4⟩ := hC
  have e0 : befB v F (nI jf) g sc r = (decide (v (3 * r + jf) < F jf) || (sc && (decide (v (3 * r + jf) = F jf) && decide (colV v r g < F g.toNatClampNeg)))) := by rw [befB, colV_n hjf, nI_c hjf]
  rw [e0]
  refine w_aload_n d_S_isBefore_0 rfl ?_
  refine w_getf g_S_18 d_S_isBefore_1 hS rfl (by decide) ?_
  refine w_iload_n d_S_isBefore_4 rfl ?_
  refine w_aload_n d_S_isBefore_5 rfl ?_
  refine w_getf g_S_26 d_S_isBefore_6 hS rfl (by decide) ?_
  refine w_vI [_, _] c_S_79 d_S_isBefore_9 rfl hT (by decide) (t_at hT hV hr hjf) (fun x w hw => ?_) rfl rfl (gq rfl) (gq rfl) (gq rfl) (gq rfl) (gq rfl) (gq rfl)
  obtain ⟨rfl, rfl⟩ := hw
  refine w_istore_n d_S_isBefore_12 (by decide) ?_
  refine w_aload_n d_S_isBefore_13 rfl ?_
  refine w_getf g_S_83 d_S_isBefore_14 h1 rfl (by omega) ?_
  refine w_aload_n d_S_isBefore_17 rfl ?_
  refine w_getf g_S_26 d_S_isBefore_18 hS rfl (by decide) ?_
  refine w_iald d_S_isBefore_21 h3 rfl hjf (by decide) (by omega) ?_
  refine w_istore d_S_isBefore_22 (by decide) ?_
  refine w_iload_n d_S_isBefore_24 rfl ?_
  refine w_iload d_S_isBefore_25 rfl ?_
  refine w_icmp_lt 67 d_S_isBefore_27 (by decide) (fun hl => ?_) (fun hl => ?_)
  · -- taken
    refine w_iconst 1 d_S_isBefore_67 (by decide) ?_
    refine w_goto 72 d_S_isBefore_68 (by decide) ?_
    exact w_zret (by first | exact Or.inl rfl | exact Or.inr rfl) d_S_isBefore_72 rfl (⟨_, rfl, by rw [decide_eq_true hl]; rfl, rfl⟩)
  · -- not taken
    refine w_aload_n d_S_isBefore_30 rfl ?_
    refine w_getf g_S_45 d_S_isBefore_31 hS rfl (by decide) ?_
    refine w_if_eq 71 d_S_isBefore_34 (by decide) (fun hs => ?_) (fun hs => ?_)
    · -- taken
      refine w_iconst 0 d_S_isBefore_71 (by decide) ?_
      exact w_zret (by first | exact Or.inl rfl | exact Or.inr rfl) d_S_isBefore_72 rfl (⟨_, rfl, by rw [decide_eq_false hl, bI_t.mp hs]; rfl, rfl⟩)
    · -- not taken
      have hs' := bI_n.mp hs
      obtain ⟨jg, hjg, rfl⟩ := hsc hs'
      refine w_iload_n d_S_isBefore_37 rfl ?_
      refine w_iload d_S_isBefore_38 rfl ?_
      refine w_icmp_ne 71 d_S_isBefore_40 (by decide) (fun he => ?_) (fun he => ?_)
      · -- taken
        refine w_iconst 0 d_S_isBefore_71 (by decide) ?_
        exact w_zret (by first | exact Or.inl rfl | exact Or.inr rfl) d_S_isBefore_72 rfl (⟨_, rfl, by rw [decide_eq_false hl, decide_eq_false he, hs']; rfl, rfl⟩)
      · -- not taken
        refine w_aload_n d_S_isBefore_43 rfl ?_
        refine w_getf g_S_18 d_S_isBefore_44 hS rfl (by decide) ?_
        refine w_iload_n d_S_isBefore_47 rfl ?_
        refine w_aload_n d_S_isBefore_48 rfl ?_
        refine w_getf g_S_33 d_S_isBefore_49 hS rfl (by decide) ?_
        refine w_vI [_, _] c_S_79 d_S_isBefore_52 rfl hT (by decide) (t_at hT hV hr hjg) (fun x w hw => ?_) rfl rfl (gq rfl) (gq rfl) (gq rfl) (gq rfl) (gq rfl) (gq rfl)
        obtain ⟨rfl, rfl⟩ := hw
        refine w_aload_n d_S_isBefore_55 rfl ?_
        refine w_getf g_S_83 d_S_isBefore_56 h1 rfl (by omega) ?_
        refine w_aload_n d_S_isBefore_59 rfl ?_
        refine w_getf g_S_33 d_S_isBefore_60 hS rfl (by decide) ?_
        refine w_iald d_S_isBefore_63 h3 rfl hjg (by decide) (by omega) ?_
        rw [colV_n hjg, nI_c hjg]
        refine w_icmp_ge 71 d_S_isBefore_64 (by decide) (fun hm => ?_) (fun hm => ?_)
        · -- taken
          refine w_iconst 0 d_S_isBefore_71 (by decide) ?_
          exact w_zret (by first | exact Or.inl rfl | exact Or.inr rfl) d_S_isBefore_72 rfl (⟨_, rfl, by rw [decide_eq_false hl, decide_eq_true he, hs', decide_eq_false (Int32.not_lt.mpr hm)]; rfl, rfl⟩)
        · -- not taken
          refine w_iconst 1 d_S_isBefore_67 (by decide) ?_
          refine w_goto 72 d_S_isBefore_68 (by decide) ?_
          exact w_zret (by first | exact Or.inl rfl | exact Or.inr rfl) d_S_isBefore_72 rfl (⟨_, rfl, by rw [decide_eq_false hl, decide_eq_true he, hs', decide_eq_true (Int32.not_le.mp hm)]; rfl, rfl⟩)
theorem s_isInside {jf r bf : Nat} {g : Int32} {sc : Bool} (hS : c 8 = oS a (nI jf) g sc bf) (hT : c 1 = oT a ins rt) (hV : c 2 = aI X 192 v) (hC : cnd X a c q K F T) (hq : q < 90) (hr : r < 64) (hjf : jf < 3) (hsc : sc = true → ∃ j, j < 3 ∧ g = nI j) :
    GW X a m_S_isInside 1 22 0 0 0 (lv_args 0 [.ref (a 8), .ref (a q), .int (nI r)]) [] c (pI (eI (bI (insB K F T v (nI jf) g sc r)) c)) := by
  have e0 : insB K F T v (nI jf) g sc r = (fitB K F T jf (v (3 * r + jf)) && (!sc || fitB K F T g.toNatClampNeg (colV v r g))) := by rw [insB, colV_n hjf, nI_c hjf]
  rw [e0]
  refine w_aload_n d_S_isInside_0 rfl ?_
  refine w_aload_n d_S_isInside_1 rfl ?_
  refine w_getf g_S_26 d_S_isInside_2 hS rfl (by decide) ?_
  refine w_aload_n d_S_isInside_5 rfl ?_
  refine w_getf g_S_18 d_S_isInside_6 hS rfl (by decide) ?_
  refine w_iload_n d_S_isInside_9 rfl ?_
  refine w_aload_n d_S_isInside_10 rfl ?_
  refine w_getf g_S_26 d_S_isInside_11 hS rfl (by decide) ?_
  refine w_vI [_, _] c_S_79 d_S_isInside_14 rfl hT (by decide) (t_at hT hV hr hjf) (fun x w hw => ?_) rfl rfl (gq rfl) (gq rfl) (gq rfl) (gq rfl) (gq rfl) (gq rfl)
  obtain ⟨rfl, rfl⟩ := hw
  refine w_vI [_, _] c_S_86 d_S_isInside_17 rfl hC.1 (by omega) (c_fit hC hq hjf) (fun x w hw => ?_) rfl rfl (gq rfl) (gq rfl) (gq rfl) (gq rfl) (gq rfl) (gq rfl)
  obtain ⟨rfl, rfl⟩ := hw
  refine w_if_eq 57 d_S_isInside_20 (by decide) (fun hl => ?_) (fun hl => ?_)
  · -- taken
    refine w_iconst 0 d_S_isInside_57 (by decide) ?_
    exact w_zret (by first | exact Or.inl rfl | exact Or.inr rfl) d_S_isInside_58 rfl (⟨_, rfl, by rw [bI_t.mp hl]; rfl, rfl⟩)
  · -- not taken
    rw [bI_n.mp hl]
    refine w_aload_n d_S_isInside_23 rfl ?_
    refine w_getf g_S_45 d_S_isInside_24 hS rfl (by decide) ?_
    refine w_if_eq 53 d_S_isInside_27 (by decide) (fun hs => ?_) (fun hs => ?_)
    · -- taken
      refine w_iconst 1 d_S_isInside_53 (by decide) ?_
      refine w_goto 58 d_S_isInside_54 (by decide) ?_
      exact w_zret (by first | exact Or.inl rfl | exact Or.inr rfl) d_S_isInside_58 rfl (⟨_, rfl, by rw [bI_t.mp hs]; rfl, rfl⟩)
    · -- not taken
      have hs' := bI_n.mp hs
      obtain ⟨jg, hjg, rfl⟩ := hsc hs'
      refine w_aload_n d_S_isInside_30 rfl ?_
      refine w_aload_n d_S_isInside_31 rfl ?_
      refine w_getf g_S_33 d_S_isInside_32 hS rfl (by decide) ?_
      refine w_aload_n d_S_isInside_35 rfl ?_
      refine w_getf g_S_18 d_S_isInside_36 hS rfl (by decide) ?_
      refine w_iload_n d_S_isInside_39 rfl ?_
      refine w_aload_n d_S_isInside_40 rfl ?_
      refine w_getf g_S_33 d_S_isInside_41 hS rfl (by decide) ?_
      refine w_vI [_, _] c_S_79 d_S_isInside_44 rfl hT (by decide) (t_at hT hV hr hjg) (fun x w hw => ?_) rfl rfl (gq rfl) (gq rfl) (gq rfl) (gq rfl) (gq rfl) (gq rfl)
      obtain ⟨rfl, rfl⟩ := hw
      refine w_vI [_, _] c_S_86 d_S_isInside_47 rfl hC.1 (by omega) (c_fit hC hq hjg) (fun x w hw => ?_) rfl rfl (gq rfl) (gq rfl) (gq rfl) (gq rfl) (gq rfl) (gq rfl)
      obtain ⟨rfl, rfl⟩ := hw
      rw [colV_n hjg, nI_c hjg]
      refine w_if_eq 57 d_S_isInside_50 (by decide) (fun hm => ?_) (fun hm => ?_)
      · -- taken
        refine w_iconst 0 d_S_isInside_57 (by decide) ?_
        exact w_zret (by first | exact Or.inl rfl | exact Or.inr rfl) d_S_isInside_58 rfl (⟨_, rfl, by rw [hs', bI_t.mp hm]; rfl, rfl⟩)
      · -- not taken
        refine w_iconst 1 d_S_isInside_53 (by decide) ?_
        refine w_goto 58 d_S_isInside_54 (by decide) ?_
        exact w_zret (by first | exact Or.inl rfl | exact Or.inr rfl) d_S_isInside_58 rfl (⟨_, rfl, by rw [hs', bI_n.mp hm]; rfl, rfl⟩)
end ST
