/-! Constructor: the model -/
section CM
variable {X : gX} {ws : va_W}
theorem i_MGo {W1 W2 : va_W} {i b q : Nat} {x : Int32} {fs : List Value} (hf : fs[20]? = some (.ref q)) (hb : W1[i]? = some (b, .inr (11, fs))) : ∀ (e j : Nat) (f : Nat → Int32) (C S : Nat), j + e = 16 → (∀ k, k < j → f k = -1) →
    G X m_M_init 1 20 C S 249 [(0, .ref b), (1, .int x), (2, .int (nI j))] [] (W1 ++ (q, aI X 16 f) :: W2) (pV (fun w => ∃ g : Nat → Int32, (∀ k, k < 16 → g k = -1) ∧ w = W1 ++ (q, aI X 16 g) :: W2)) := by
  intro e
  induction e with
  | zero =>
    intro j f C S hj hf'
    obtain rfl : j = 16 := by omega
    refine g_iload_n d_M_init_249 rfl ?_
    refine g_bipush 16 d_M_init_250 (by decide) ?_
    refine g_icmp_ge 268 d_M_init_252 (by decide) (fun _ => ?_) (fun hn => absurd ((nI_leI (a := 16) (b := 16) (by decide) (by decide)).mpr (by decide)) hn)
    exact g_vret d_M_init_268 rfl ⟨rfl, f, hf', rfl⟩
  | succ e ih =>
    intro j f C S hj hf'
    have hp : (W1 ++ (q, aI X 16 f) :: W2)[W1.length]? = some (q, aI X 16 f) := by
      rw [List.getElem?_append_right (Nat.le_refl _), Nat.sub_self]; rfl
    refine g_iload_n d_M_init_249 rfl ?_
    refine g_bipush 16 d_M_init_250 (by decide) ?_
    refine g_icmp_ge 268 d_M_init_252 (by decide) (fun z => absurd ((nI_leI (a := 16) (b := j) (by decide) (by omega)).mp z) (by omega)) (fun _ => ?_)
    refine g_aload_n d_M_init_255 rfl ?_
    refine g_getf g_M_51 d_M_init_256 (ge0 hb) hf ?_
    refine g_iload_n d_M_init_259 rfl ?_
    refine g_iconst (-1) d_M_init_260 (by decide) ?_
    refine g_iast (j := j) d_M_init_261 hp rfl (by omega) (by decide) ?_
    rw [List.set_append_right _ _ (Nat.le_refl _), Nat.sub_self]
    refine g_iinc _ d_M_init_262 rfl (nIinc _) (by decide) ?_
    refine g_goto 249 d_M_init_265 (by decide) ?_
    exact ih (j + 1) (upd f j (-1)) C S (by omega) (fun k hk => by by_cases e : k = j; (rw [e, pk_us]); (rw [pk_un e]; exact hf' k (by omega)))
theorem i_M2 {W1 W2 : va_W} {i b q C S : Nat} {x v : Int32} {fs : List Value} {f : Nat → Int32} (hl : fs.length = 34) (hf : fs[20]? = some (.ref q)) (hb : W1[i]? = some (b, .inr (11, fs))) :
    G X m_M_init 1 20 C S 244 [(0, .ref b), (1, .int x)] [.int v, .ref b] (W1 ++ (q, aI X 16 f) :: W2) (pV (fun w => ∃ g : Nat → Int32, (∀ k, k < 16 → g k = -1) ∧ w = W1.set i (b, .inr (11, fs.set 19 (.int v))) ++ (q, aI X 16 g) :: W2)) := by
  refine g_putF p_M_69 rfl d_M_init_244 (ge0 hb) rfl rfl (by rw [hl]; decide) ?_
  rw [st0 (lt_of hb)]
  refine g_iconst 0 d_M_init_247 (by decide) ?_
  refine g_istore_n d_M_init_248 (by decide) ?_
  exact i_MGo (fs := fs.set 19 (.int v)) (by rw [List.getElem?_set_ne (by decide)]; exact hf) (List.getElem?_set_self (lt_of hb)) 16 0 f C S rfl (fun k hk => absurd hk (by omega))
theorem i_M1 {W1 W2 : va_W} {i b q C S : Nat} {x : Int32} {fs : List Value} {f : Nat → Int32} (hl : fs.length = 34) (hf : fs[20]? = some (.ref q)) (hb : W1[i]? = some (b, .inr (11, fs))) :
    G X m_M_init 1 20 C S 222 [(0, .ref b), (1, .int x)] [] (W1 ++ (q, aI X 16 f) :: W2) (pV (fun w => ∃ g : Nat → Int32, (∀ k, k < 16 → g k = -1) ∧ w = W1.set i (b, .inr (11, fs.set 19 (.int (nI (nFr x))))) ++ (q, aI X 16 g) :: W2)) := by
  rw [← (nFr_ok x).2.2]
  refine g_aload_n d_M_init_222 rfl ?_
  refine g_iload_n d_M_init_223 rfl ?_
  refine g_iconst 2 d_M_init_224 (by decide) ?_
  refine g_icmp_ge 232 d_M_init_225 (by decide) (fun h1 => ?_) (fun h1 => ?_)
  · rw [if_neg (le_nlt h1)]
    refine g_iload_n d_M_init_232 rfl ?_
    refine g_bipush 16 d_M_init_233 (by decide) ?_
    refine g_icmp_le 243 d_M_init_235 (by decide) (fun h2 => ?_) (fun h2 => ?_)
    · rw [if_neg (le_nlt h2)]
      refine g_iload_n d_M_init_243 rfl ?_
      exact i_M2 hl hf hb
    · rw [if_pos (nle_lt h2)]
      refine g_bipush 16 d_M_init_238 (by decide) ?_
      refine g_goto 244 d_M_init_240 (by decide) ?_
      exact i_M2 hl hf hb
  · rw [if_pos (nle_lt h1)]
    refine g_iconst 2 d_M_init_228 (by decide) ?_
    refine g_goto 244 d_M_init_229 (by decide) ?_
    exact i_M2 hl hf hb
abbrev mf1 : Nat → Int32 := (upd (upd (upd (upd (upd (upd (upd (upd (upd (fun _ => 0) 0 0) 1 1) 2 2) 3 0) 4 0) 5 1) 6 1) 7 2) 8 2)
abbrev mf2 : Nat → Int32 := (upd (upd (upd (upd (upd (upd (upd (upd (upd (fun _ => 0) 0 (-1)) 1 (-1)) 2 (-1)) 3 1) 4 2) 5 0) 6 2) 7 0) 8 1)
theorem mf_ok : ∀ i, i < 9 → mf1 i = nI (fN i) ∧ mf2 i = scol i := by decide +kernel
def ctM (X : gX) (q80 q81 q82 q83 q84 q85 q86 q87 q88 q89 q90 q91 q92 q93 : Nat) (PP : Nat → Int32) : va_W := [(q80, aZ X 64 (fun _ => 0)), (q81, aI X 192 (fun _ => 0)), (q82, aI X 9 mf1), (q83, aI X 9 mf2), (q84, aI X 9 (fun _ => 0)), (q85, aI X 27 (fun _ => 0)), (q86, aI X 27 (fun _ => 0)), (q87, aI X 27 (fun _ => 0)), (q88, aI X 8 (fun _ => 0)), (q89, aI X 16 PP), (q90, aZ X 16 (fun _ => 0)), (q91, aI X 64 (fun _ => 0)), (q92, aI X 64 (fun _ => 0)), (q93, aI X 73 (fun _ => 0))]
def fsM (x : Int32) (q80 q81 q82 q83 q84 q85 q86 q87 q88 q89 q90 q91 q92 q93 : Nat) : List Value := [.int 0, .int 0, .ref q80, .ref q81, .ref q82, .ref q83, .ref q84, .int (-1), .int 0, .int 0, .ref q85, .ref q86, .ref q87, .int (-1), .int 64, .int 0, .ref q88, .int 0, .int 16, .int (nI (nFr x)), .ref q89, .ref q90, .int 0, .ref q91, .int 0, .int (-1), .int 0, .int 0, .int 0, .ref q92, .int 0, .int 0, .int 0, .ref q93]
set_option maxHeartbeats 4000000 in
theorem i_M {i b : Nat} {x : Int32} (h : ws[i]? = some (b, .inr (11, [.int 0, .int 0, .null, .null, .null, .null, .null, .int 0, .int 0, .int 0, .null, .null, .null, .int 0, .int 0, .int 0, .null, .int 0, .int 0, .int 0, .null, .null, .int 0, .null, .int 0, .int 0, .int 0, .int 0, .int 0, .null, .int 0, .int 0, .int 0, .null]))) : G X m_M_init 1 20 14 605 0 (lv_args 0 [.ref b, .int x]) [] ws (pV (fun w => ∃ (q80 q81 q82 q83 q84 q85 q86 q87 q88 q89 q90 q91 q92 q93 : Nat) (PP : Nat → Int32), (∀ k, k < 16 → PP k = -1) ∧ w = ws.set i (b, .inr (11, fsM x q80 q81 q82 q83 q84 q85 q86 q87 q88 q89 q90 q91 q92 q93)) ++ ctM X q80 q81 q82 q83 q84 q85 q86 q87 q88 q89 q90 q91 q92 q93 PP)) := by
  refine g_aload_n d_M_init_0 rfl ?_
  refine g_obj w_866 w_28 w_29 d_M_init_1 (gq rfl) (gq rfl) (gq rfl) ?_
  refine g_aload_n d_M_init_4 rfl ?_
  refine g_bipush 64 d_M_init_5 (by decide) ?_
  refine g_newZ (j := 64) d_M_init_7 rfl (gq rfl) (gq rfl) (gq rfl) (fun q80 => ?_)
  refine g_putF p_M_7 rfl d_M_init_9 (ge0 h) rfl rfl (gq rfl) ?_
  rw [st0 (lt_of h)]
  simp only [List.set_cons_succ, List.set_cons_zero]
  refine g_aload_n d_M_init_12 rfl ?_
  refine g_sipush 192 d_M_init_13 (by decide) ?_
  refine g_newI (j := 192) d_M_init_16 rfl (gq rfl) (gq rfl) (gq rfl) (fun q81 => ?_)
  simp only [List.append_assoc, List.cons_append, List.nil_append]
  refine g_putF p_M_13 rfl d_M_init_18 (ge1 (lt_of h)) rfl rfl (gq rfl) ?_
  rw [st1 (lt_of h)]
  simp only [List.set_cons_succ, List.set_cons_zero]
  refine g_aload_n d_M_init_21 rfl ?_
  refine g_bipush 9 d_M_init_22 (by decide) ?_
  refine g_newI (j := 9) d_M_init_24 rfl (gq rfl) (gq rfl) (gq rfl) (fun q82 => ?_)
  refine g_dup d_M_init_26 rfl ?_
  refine g_iconst 0 d_M_init_27 (by decide) ?_
  refine g_iconst 0 d_M_init_28 (by decide) ?_
  refine g_iast (j := 0) d_M_init_29 geE rfl (by decide) (by decide) ?_
  rw [stE]
  refine g_dup d_M_init_30 rfl ?_
  refine g_iconst 1 d_M_init_31 (by decide) ?_
  refine g_iconst 1 d_M_init_32 (by decide) ?_
  refine g_iast (j := 1) d_M_init_33 geE rfl (by decide) (by decide) ?_
  rw [stE]
  refine g_dup d_M_init_34 rfl ?_
  refine g_iconst 2 d_M_init_35 (by decide) ?_
  refine g_iconst 2 d_M_init_36 (by decide) ?_
  refine g_iast (j := 2) d_M_init_37 geE rfl (by decide) (by decide) ?_
  rw [stE]
  refine g_dup d_M_init_38 rfl ?_
  refine g_iconst 3 d_M_init_39 (by decide) ?_
  refine g_iconst 0 d_M_init_40 (by decide) ?_
  refine g_iast (j := 3) d_M_init_41 geE rfl (by decide) (by decide) ?_
  rw [stE]
  refine g_dup d_M_init_42 rfl ?_
  refine g_iconst 4 d_M_init_43 (by decide) ?_
  refine g_iconst 0 d_M_init_44 (by decide) ?_
  refine g_iast (j := 4) d_M_init_45 geE rfl (by decide) (by decide) ?_
  rw [stE]
  refine g_dup d_M_init_46 rfl ?_
  refine g_iconst 5 d_M_init_47 (by decide) ?_
  refine g_iconst 1 d_M_init_48 (by decide) ?_
  refine g_iast (j := 5) d_M_init_49 geE rfl (by decide) (by decide) ?_
  rw [stE]
  refine g_dup d_M_init_50 rfl ?_
  refine g_bipush 6 d_M_init_51 (by decide) ?_
  refine g_iconst 1 d_M_init_53 (by decide) ?_
  refine g_iast (j := 6) d_M_init_54 geE rfl (by decide) (by decide) ?_
  rw [stE]
  refine g_dup d_M_init_55 rfl ?_
  refine g_bipush 7 d_M_init_56 (by decide) ?_
  refine g_iconst 2 d_M_init_58 (by decide) ?_
  refine g_iast (j := 7) d_M_init_59 geE rfl (by decide) (by decide) ?_
  rw [stE]
  refine g_dup d_M_init_60 rfl ?_
  refine g_bipush 8 d_M_init_61 (by decide) ?_
  refine g_iconst 2 d_M_init_63 (by decide) ?_
  refine g_iast (j := 8) d_M_init_64 geE rfl (by decide) (by decide) ?_
  rw [stE]
  simp only [List.append_assoc, List.cons_append, List.nil_append]
  refine g_putF p_M_17 rfl d_M_init_65 (ge1 (lt_of h)) rfl rfl (gq rfl) ?_
  rw [st1 (lt_of h)]
  simp only [List.set_cons_succ, List.set_cons_zero]
  refine g_aload_n d_M_init_68 rfl ?_
  refine g_bipush 9 d_M_init_69 (by decide) ?_
  refine g_newI (j := 9) d_M_init_71 rfl (gq rfl) (gq rfl) (gq rfl) (fun q83 => ?_)
  refine g_dup d_M_init_73 rfl ?_
  refine g_iconst 0 d_M_init_74 (by decide) ?_
  refine g_iconst (-1) d_M_init_75 (by decide) ?_
  refine g_iast (j := 0) d_M_init_76 geE rfl (by decide) (by decide) ?_
  rw [stE]
  refine g_dup d_M_init_77 rfl ?_
  refine g_iconst 1 d_M_init_78 (by decide) ?_
  refine g_iconst (-1) d_M_init_79 (by decide) ?_
  refine g_iast (j := 1) d_M_init_80 geE rfl (by decide) (by decide) ?_
  rw [stE]
  refine g_dup d_M_init_81 rfl ?_
  refine g_iconst 2 d_M_init_82 (by decide) ?_
  refine g_iconst (-1) d_M_init_83 (by decide) ?_
  refine g_iast (j := 2) d_M_init_84 geE rfl (by decide) (by decide) ?_
  rw [stE]
  refine g_dup d_M_init_85 rfl ?_
  refine g_iconst 3 d_M_init_86 (by decide) ?_
  refine g_iconst 1 d_M_init_87 (by decide) ?_
  refine g_iast (j := 3) d_M_init_88 geE rfl (by decide) (by decide) ?_
  rw [stE]
  refine g_dup d_M_init_89 rfl ?_
  refine g_iconst 4 d_M_init_90 (by decide) ?_
  refine g_iconst 2 d_M_init_91 (by decide) ?_
  refine g_iast (j := 4) d_M_init_92 geE rfl (by decide) (by decide) ?_
  rw [stE]
  refine g_dup d_M_init_93 rfl ?_
  refine g_iconst 5 d_M_init_94 (by decide) ?_
  refine g_iconst 0 d_M_init_95 (by decide) ?_
  refine g_iast (j := 5) d_M_init_96 geE rfl (by decide) (by decide) ?_
  rw [stE]
  refine g_dup d_M_init_97 rfl ?_
  refine g_bipush 6 d_M_init_98 (by decide) ?_
  refine g_iconst 2 d_M_init_100 (by decide) ?_
  refine g_iast (j := 6) d_M_init_101 geE rfl (by decide) (by decide) ?_
  rw [stE]
  refine g_dup d_M_init_102 rfl ?_
  refine g_bipush 7 d_M_init_103 (by decide) ?_
  refine g_iconst 0 d_M_init_105 (by decide) ?_
  refine g_iast (j := 7) d_M_init_106 geE rfl (by decide) (by decide) ?_
  rw [stE]
  refine g_dup d_M_init_107 rfl ?_
  refine g_bipush 8 d_M_init_108 (by decide) ?_
  refine g_iconst 1 d_M_init_110 (by decide) ?_
  refine g_iast (j := 8) d_M_init_111 geE rfl (by decide) (by decide) ?_
  rw [stE]
  simp only [List.append_assoc, List.cons_append, List.nil_append]
  refine g_putF p_M_20 rfl d_M_init_112 (ge1 (lt_of h)) rfl rfl (gq rfl) ?_
  rw [st1 (lt_of h)]
  simp only [List.set_cons_succ, List.set_cons_zero]
  refine g_aload_n d_M_init_115 rfl ?_
  refine g_bipush 9 d_M_init_116 (by decide) ?_
  refine g_newI (j := 9) d_M_init_118 rfl (gq rfl) (gq rfl) (gq rfl) (fun q84 => ?_)
  simp only [List.append_assoc, List.cons_append, List.nil_append]
  refine g_putF p_M_23 rfl d_M_init_120 (ge1 (lt_of h)) rfl rfl (gq rfl) ?_
  rw [st1 (lt_of h)]
  simp only [List.set_cons_succ, List.set_cons_zero]
  refine g_aload_n d_M_init_123 rfl ?_
  refine g_iconst (-1) d_M_init_124 (by decide) ?_
  refine g_putf p_M_26 d_M_init_125 (ge1 (lt_of h)) rfl rfl (gqL rfl) ?_
  rw [st1 (lt_of h)]
  simp only [List.set_cons_succ, List.set_cons_zero]
  refine g_aload_n d_M_init_128 rfl ?_
  refine g_bipush 27 d_M_init_129 (by decide) ?_
  refine g_newI (j := 27) d_M_init_131 rfl (gq rfl) (gq rfl) (gq rfl) (fun q85 => ?_)
  simp only [List.append_assoc, List.cons_append, List.nil_append]
  refine g_putF p_M_30 rfl d_M_init_133 (ge1 (lt_of h)) rfl rfl (gq rfl) ?_
  rw [st1 (lt_of h)]
  simp only [List.set_cons_succ, List.set_cons_zero]
  refine g_aload_n d_M_init_136 rfl ?_
  refine g_bipush 27 d_M_init_137 (by decide) ?_
  refine g_newI (j := 27) d_M_init_139 rfl (gq rfl) (gq rfl) (gq rfl) (fun q86 => ?_)
  simp only [List.append_assoc, List.cons_append, List.nil_append]
  refine g_putF p_M_33 rfl d_M_init_141 (ge1 (lt_of h)) rfl rfl (gq rfl) ?_
  rw [st1 (lt_of h)]
  simp only [List.set_cons_succ, List.set_cons_zero]
  refine g_aload_n d_M_init_144 rfl ?_
  refine g_bipush 27 d_M_init_145 (by decide) ?_
  refine g_newI (j := 27) d_M_init_147 rfl (gq rfl) (gq rfl) (gq rfl) (fun q87 => ?_)
  simp only [List.append_assoc, List.cons_append, List.nil_append]
  refine g_putF p_M_36 rfl d_M_init_149 (ge1 (lt_of h)) rfl rfl (gq rfl) ?_
  rw [st1 (lt_of h)]
  simp only [List.set_cons_succ, List.set_cons_zero]
  refine g_aload_n d_M_init_152 rfl ?_
  refine g_iconst (-1) d_M_init_153 (by decide) ?_
  refine g_putf p_M_39 d_M_init_154 (ge1 (lt_of h)) rfl rfl (gqL rfl) ?_
  rw [st1 (lt_of h)]
  simp only [List.set_cons_succ, List.set_cons_zero]
  refine g_aload_n d_M_init_157 rfl ?_
  refine g_bipush 64 d_M_init_158 (by decide) ?_
  refine g_putf p_M_42 d_M_init_160 (ge1 (lt_of h)) rfl rfl (gqL rfl) ?_
  rw [st1 (lt_of h)]
  simp only [List.set_cons_succ, List.set_cons_zero]
  refine g_aload_n d_M_init_163 rfl ?_
  refine g_bipush 8 d_M_init_164 (by decide) ?_
  refine g_newI (j := 8) d_M_init_166 rfl (gq rfl) (gq rfl) (gq rfl) (fun q88 => ?_)
  simp only [List.append_assoc, List.cons_append, List.nil_append]
  refine g_putF p_M_45 rfl d_M_init_168 (ge1 (lt_of h)) rfl rfl (gq rfl) ?_
  rw [st1 (lt_of h)]
  simp only [List.set_cons_succ, List.set_cons_zero]
  refine g_aload_n d_M_init_171 rfl ?_
  refine g_bipush 16 d_M_init_172 (by decide) ?_
  refine g_putf p_M_48 d_M_init_174 (ge1 (lt_of h)) rfl rfl (gqL rfl) ?_
  rw [st1 (lt_of h)]
  simp only [List.set_cons_succ, List.set_cons_zero]
  refine g_aload_n d_M_init_177 rfl ?_
  refine g_bipush 16 d_M_init_178 (by decide) ?_
  refine g_newI (j := 16) d_M_init_180 rfl (gq rfl) (gq rfl) (gq rfl) (fun q89 => ?_)
  simp only [List.append_assoc, List.cons_append, List.nil_append]
  refine g_putF p_M_51 rfl d_M_init_182 (ge1 (lt_of h)) rfl rfl (gq rfl) ?_
  rw [st1 (lt_of h)]
  simp only [List.set_cons_succ, List.set_cons_zero]
  refine g_aload_n d_M_init_185 rfl ?_
  refine g_bipush 16 d_M_init_186 (by decide) ?_
  refine g_newZ (j := 16) d_M_init_188 rfl (gq rfl) (gq rfl) (gq rfl) (fun q90 => ?_)
  simp only [List.append_assoc, List.cons_append, List.nil_append]
  refine g_putF p_M_54 rfl d_M_init_190 (ge1 (lt_of h)) rfl rfl (gq rfl) ?_
  rw [st1 (lt_of h)]
  simp only [List.set_cons_succ, List.set_cons_zero]
  refine g_aload_n d_M_init_193 rfl ?_
  refine g_bipush 64 d_M_init_194 (by decide) ?_
  refine g_newI (j := 64) d_M_init_196 rfl (gq rfl) (gq rfl) (gq rfl) (fun q91 => ?_)
  simp only [List.append_assoc, List.cons_append, List.nil_append]
  refine g_putF p_M_57 rfl d_M_init_198 (ge1 (lt_of h)) rfl rfl (gq rfl) ?_
  rw [st1 (lt_of h)]
  simp only [List.set_cons_succ, List.set_cons_zero]
  refine g_aload_n d_M_init_201 rfl ?_
  refine g_iconst (-1) d_M_init_202 (by decide) ?_
  refine g_putf p_M_60 d_M_init_203 (ge1 (lt_of h)) rfl rfl (gqL rfl) ?_
  rw [st1 (lt_of h)]
  simp only [List.set_cons_succ, List.set_cons_zero]
  refine g_aload_n d_M_init_206 rfl ?_
  refine g_bipush 64 d_M_init_207 (by decide) ?_
  refine g_newI (j := 64) d_M_init_209 rfl (gq rfl) (gq rfl) (gq rfl) (fun q92 => ?_)
  simp only [List.append_assoc, List.cons_append, List.nil_append]
  refine g_putF p_M_63 rfl d_M_init_211 (ge1 (lt_of h)) rfl rfl (gq rfl) ?_
  rw [st1 (lt_of h)]
  simp only [List.set_cons_succ, List.set_cons_zero]
  refine g_aload_n d_M_init_214 rfl ?_
  refine g_bipush 73 d_M_init_215 (by decide) ?_
  refine g_newI (j := 73) d_M_init_217 rfl (gq rfl) (gq rfl) (gq rfl) (fun q93 => ?_)
  simp only [List.append_assoc, List.cons_append, List.nil_append]
  refine g_putF p_M_66 rfl d_M_init_219 (ge1 (lt_of h)) rfl rfl (gq rfl) ?_
  rw [st1 (lt_of h)]
  simp only [List.set_cons_succ, List.set_cons_zero]
  refine g_ws (ws' := (ws.set i (b, .inr (11, [.int 0, .int 0, .ref q80, .ref q81, .ref q82, .ref q83, .ref q84, .int (-1), .int 0, .int 0, .ref q85, .ref q86, .ref q87, .int (-1), .int 64, .int 0, .ref q88, .int 0, .int 16, .int 0, .ref q89, .ref q90, .int 0, .ref q91, .int 0, .int (-1), .int 0, .int 0, .int 0, .ref q92, .int 0, .int 0, .int 0, .ref q93])) ++ [(q80, aZ X 64 (fun _ => 0)), (q81, aI X 192 (fun _ => 0)), (q82, aI X 9 mf1), (q83, aI X 9 mf2), (q84, aI X 9 (fun _ => 0)), (q85, aI X 27 (fun _ => 0)), (q86, aI X 27 (fun _ => 0)), (q87, aI X 27 (fun _ => 0)), (q88, aI X 8 (fun _ => 0))]) ++ (q89, aI X 16 (fun _ => 0)) :: [(q90, aZ X 16 (fun _ => 0)), (q91, aI X 64 (fun _ => 0)), (q92, aI X 64 (fun _ => 0)), (q93, aI X 73 (fun _ => 0))]) (List.append_assoc _ [(q80, aZ X 64 (fun _ => 0)), (q81, aI X 192 (fun _ => 0)), (q82, aI X 9 mf1), (q83, aI X 9 mf2), (q84, aI X 9 (fun _ => 0)), (q85, aI X 27 (fun _ => 0)), (q86, aI X 27 (fun _ => 0)), (q87, aI X 27 (fun _ => 0)), (q88, aI X 8 (fun _ => 0))] ((q89, aI X 16 (fun _ => 0)) :: [(q90, aZ X 16 (fun _ => 0)), (q91, aI X 64 (fun _ => 0)), (q92, aI X 64 (fun _ => 0)), (q93, aI X 73 (fun _ => 0))])).symm ?_
  refine g_post (fun r w hw => ?_) (i_M1 rfl rfl (ge1 (lt_of h)))
  obtain ⟨e0, g, e1, rfl⟩ := hw
  refine ⟨e0, q80, q81, q82, q83, q84, q85, q86, q87, q88, q89, q90, q91, q92, q93, g, e1, ?_⟩
  rw [st1 (lt_of h), List.append_assoc]
  rfl
end CM
