/-! Constructor: the class itself -/
section CA
variable {X : gX} {ws : va_W}
-- the cells that it makes, in the order of their places
def ctA (X : gX) (x : Int32) (q1 q2 q3 q4 q5 q6 q7 q8 q9 q10 q11 q12 q13 q14 q15 q16 q17 : Nat) (A : Nat → Nat → Nat) (q74 q75 q76 q77 q78 : Nat) (pf : Nat → Int32) (sf : Nat → Option Nat) : va_W := [(q1, .inr (1, [.ref q2, .ref q3, .int 0, .int 0])), (q2, aI X 192 (fun _ => 0)), (q3, aZ X 64 (fun _ => 0)), (q4, .inr (2, [.ref q5, .ref q6, .ref q7])), (q5, aI X 3 (fun _ => 0)), (q6, aI X 3 (fun _ => 0)), (q7, aI X 3 (fun _ => 0)), (q8, .inr (3, [.ref q1, .ref q9, .int 0, .int 0, .int 0, .int 0])), (q9, .inr (9, [.ref q10, .int 0])), (q10, aI X 64 (fun _ => 0)), (q11, .inr (4, [.ref q12, .int 0])), (q12, aI X 9 (fun _ => 0)), (q13, .inr (5, [.ref q14, .ref q15, .int 0, .int 0, .int 0])), (q14, aI X (nFr x) pf), (q15, aZ X (nFr x) (fun _ => 0)), (q16, .inr (6, [.ref q17, .int 0, .int 0])), (q17, aQ X sf)] ++ (shL X A 8 ++ [(q74, .inr (7, [.ref q1, .ref q8, .ref q16])), (q75, .inr (8, [.ref q1, .ref q76, .int (-1), .int 0, .int 0])), (q76, aI X 9 (fun _ => 0)), (q77, .inr (9, [.ref q78, .int 0])), (q78, aI X 64 (fun _ => 0))])
theorem i_A {i b : Nat} {x : Int32} (h : ws[i]? = some (b, .inr (0, [.null, .null, .null, .null, .null, .null, .null, .null, .null, .int 0, .int 0, .int 0, .int 0, .int 0]))) : G X m_A_init 4 81 80 700 0 (lv_args 0 [.ref b, .int x]) [] ws (pV (fun w => ∃ (q1 q2 q3 q4 q5 q6 q7 q8 q9 q10 q11 q12 q13 q14 q15 q16 q17 : Nat) (A : Nat → Nat → Nat) (q74 q75 q76 q77 q78 : Nat) (pf : Nat → Int32) (sf : Nat → Option Nat), (∀ k, k < nFr x → pf k = -1) ∧ (∀ k, k < 8 → sf k = some (A k 0)) ∧ w = ws.set i (b, .inr (0, [.ref q1, .ref q4, .ref q8, .ref q11, .ref q13, .ref q16, .ref q74, .ref q75, .ref q77, .int (-1), .int 64, .int 16, .int (-1), .int 0])) ++ ctA X x q1 q2 q3 q4 q5 q6 q7 q8 q9 q10 q11 q12 q13 q14 q15 q16 q17 A q74 q75 q76 q77 q78 pf sf)) := by
  refine g_aload_n d_A_init_0 rfl ?_
  refine g_obj w_27 w_28 w_29 d_A_init_1 (gq rfl) (gq rfl) (gq rfl) ?_
  refine g_aload_n d_A_init_4 rfl ?_
  refine g_new (ci := 1) (fs := [.null, .null, .int 0, .int 0]) rfl w_30 w_31 w_2 ws_T ty_T tyok_T (by decide) d_A_init_5 (gq rfl) (gq rfl) (fun q1 => ?_)
  refine g_dup d_A_init_8 rfl ?_
  refine g_iV [] c_A_11 d_A_init_9 (i_T geE) (fun w hw => ?_) rfl rfl (gq rfl) (gq rfl) (gq rfl) (gq rfl) (gq rfl) (gq rfl)
  obtain ⟨q2, q3, rfl⟩ := hw
  rw [stE]
  simp only [List.append_assoc, List.cons_append, List.nil_append]
  refine g_putF p_A_12 rfl d_A_init_12 (ge0 h) rfl rfl (gq rfl) ?_
  rw [st0 (lt_of h)]
  refine g_aload_n d_A_init_15 rfl ?_
  refine g_new (ci := 2) (fs := [.null, .null, .null]) rfl w_56 w_57 w_3 ws_C ty_C tyok_C (by decide) d_A_init_16 (gq rfl) (gq rfl) (fun q4 => ?_)
  refine g_dup d_A_init_19 rfl ?_
  refine g_iV [] c_A_18 d_A_init_20 (i_C geE) (fun w hw => ?_) rfl rfl (gq rfl) (gq rfl) (gq rfl) (gq rfl) (gq rfl) (gq rfl)
  obtain ⟨q5, q6, q7, rfl⟩ := hw
  rw [stE]
  simp only [List.append_assoc, List.cons_append, List.nil_append]
  refine g_putF p_A_19 rfl d_A_init_23 (ge1 (lt_of h)) rfl rfl (gq rfl) ?_
  rw [st1 (lt_of h)]
  refine g_aload_n d_A_init_26 rfl ?_
  refine g_new (ci := 3) (fs := [.null, .null, .int 0, .int 0, .int 0, .int 0]) rfl w_74 w_75 w_4 ws_S ty_S tyok_S (by decide) d_A_init_27 (gq rfl) (gq rfl) (fun q8 => ?_)
  refine g_dup d_A_init_30 rfl ?_
  refine g_aload_n d_A_init_31 rfl ?_
  refine g_getf g_A_12 d_A_init_32 (ge0 (ge1 (lt_of h))) rfl ?_
  refine g_iV [.ref q1] c_A_25 d_A_init_35 (i_S geE) (fun w hw => ?_) rfl rfl (gq rfl) (gq rfl) (gq rfl) (gq rfl) (gq rfl) (gq rfl)
  obtain ⟨q9, q10, rfl⟩ := hw
  rw [stE]
  simp only [List.append_assoc, List.cons_append, List.nil_append]
  refine g_putF p_A_28 rfl d_A_init_38 (ge1 (lt_of h)) rfl rfl (gq rfl) ?_
  rw [st1 (lt_of h)]
  refine g_aload_n d_A_init_41 rfl ?_
  refine g_new (ci := 4) (fs := [.null, .int 0]) rfl w_116 w_117 w_6 ws_W ty_W tyok_W (by decide) d_A_init_42 (gq rfl) (gq rfl) (fun q11 => ?_)
  refine g_dup d_A_init_45 rfl ?_
  refine g_iV [] c_A_34 d_A_init_46 (i_W geE) (fun w hw => ?_) rfl rfl (gq rfl) (gq rfl) (gq rfl) (gq rfl) (gq rfl) (gq rfl)
  obtain ⟨q12, rfl⟩ := hw
  rw [stE]
  simp only [List.append_assoc, List.cons_append, List.nil_append]
  refine g_putF p_A_35 rfl d_A_init_49 (ge1 (lt_of h)) rfl rfl (gq rfl) ?_
  rw [st1 (lt_of h)]
  refine g_aload_n d_A_init_52 rfl ?_
  refine g_new (ci := 5) (fs := [.null, .null, .int 0, .int 0, .int 0]) rfl w_129 w_130 w_7 ws_P ty_P tyok_P (by decide) d_A_init_53 (gq rfl) (gq rfl) (fun q13 => ?_)
  refine g_dup d_A_init_56 rfl ?_
  refine g_iload_n d_A_init_57 rfl ?_
  refine g_iV [.int x] c_A_41 d_A_init_58 (i_P geE) (fun w hw => ?_) rfl rfl (gq rfl) (gq rfl) (gq rfl) (gq rfl) (gq rfl) (gq rfl)
  obtain ⟨q14, q15, pf, hpf, rfl⟩ := hw
  rw [stE]
  simp only [List.append_assoc, List.cons_append, List.nil_append]
  refine g_putF p_A_44 rfl d_A_init_61 (ge1 (lt_of h)) rfl rfl (gq rfl) ?_
  rw [st1 (lt_of h)]
  refine g_aload_n d_A_init_64 rfl ?_
  refine g_new (ci := 6) (fs := [.null, .int 0, .int 0]) rfl w_159 w_160 w_9 ws_D ty_D tyok_D (by decide) d_A_init_65 (gq rfl) (gq rfl) (fun q16 => ?_)
  refine g_dup d_A_init_68 rfl ?_
  refine g_iV [] c_A_50 d_A_init_69 (i_D geE) (fun w hw => ?_) rfl rfl (gq rfl) (gq rfl) (gq rfl) (gq rfl) (gq rfl) (gq rfl)
  obtain ⟨q17, A, sf, hsf, rfl⟩ := hw
  rw [stE]
  simp only [List.append_assoc, List.cons_append, List.nil_append]
  refine g_putF p_A_51 rfl d_A_init_72 (ge1 (lt_of h)) rfl rfl (gq rfl) ?_
  rw [st1 (lt_of h)]
  refine g_aload_n d_A_init_75 rfl ?_
  refine g_new (ci := 7) (fs := [.null, .null, .null]) rfl w_209 w_210 w_11 ws_V ty_V tyok_V (by decide) d_A_init_76 (gq rfl) (gq rfl) (fun q74 => ?_)
  refine g_dup d_A_init_79 rfl ?_
  refine g_aload_n d_A_init_80 rfl ?_
  refine g_getf g_A_12 d_A_init_81 (ge0 (ge1 (lt_of h))) rfl ?_
  refine g_aload_n d_A_init_84 rfl ?_
  refine g_getf g_A_28 d_A_init_85 (ge0 (ge1 (lt_of h))) rfl ?_
  refine g_aload_n d_A_init_88 rfl ?_
  refine g_getf g_A_51 d_A_init_89 (ge0 (ge1 (lt_of h))) rfl ?_
  refine g_iV [.ref q1, .ref q8, .ref q16] c_A_57 d_A_init_92 (i_V geE) (fun w hw => ?_) rfl rfl (gq rfl) (gq rfl) (gq rfl) (gq rfl) (gq rfl) (gq rfl)
  subst hw
  rw [stE]
  simp only [List.append_assoc, List.cons_append, List.nil_append]
  refine g_putF p_A_60 rfl d_A_init_95 (ge1 (lt_of h)) rfl rfl (gq rfl) ?_
  rw [st1 (lt_of h)]
  refine g_aload_n d_A_init_98 rfl ?_
  refine g_new (ci := 8) (fs := [.null, .null, .int 0, .int 0, .int 0]) rfl w_225 w_226 w_12 ws_B ty_B tyok_B (by decide) d_A_init_99 (gq rfl) (gq rfl) (fun q75 => ?_)
  refine g_dup d_A_init_102 rfl ?_
  refine g_aload_n d_A_init_103 rfl ?_
  refine g_getf g_A_12 d_A_init_104 (ge0 (ge1 (lt_of h))) rfl ?_
  refine g_iV [.ref q1] c_A_66 d_A_init_107 (i_B geE) (fun w hw => ?_) rfl rfl (gq rfl) (gq rfl) (gq rfl) (gq rfl) (gq rfl) (gq rfl)
  obtain ⟨q76, rfl⟩ := hw
  rw [stE]
  simp only [List.append_assoc, List.cons_append, List.nil_append]
  refine g_putF p_A_67 rfl d_A_init_110 (ge1 (lt_of h)) rfl rfl (gq rfl) ?_
  rw [st1 (lt_of h)]
  refine g_aload_n d_A_init_113 rfl ?_
  refine g_new (ci := 9) (fs := [.null, .int 0]) rfl w_248 w_81 w_5 ws_R ty_R tyok_R (by decide) d_A_init_114 (gq rfl) (gq rfl) (fun q77 => ?_)
  refine g_dup d_A_init_117 rfl ?_
  refine g_iV [] c_A_73 d_A_init_118 (i_R geE) (fun w hw => ?_) rfl rfl (gq rfl) (gq rfl) (gq rfl) (gq rfl) (gq rfl) (gq rfl)
  obtain ⟨q78, rfl⟩ := hw
  rw [stE]
  simp only [List.append_assoc, List.cons_append, List.nil_append]
  refine g_putF p_A_74 rfl d_A_init_121 (ge1 (lt_of h)) rfl rfl (gq rfl) ?_
  rw [st1 (lt_of h)]
  refine g_aload_n d_A_init_124 rfl ?_
  refine g_iconst (-1) d_A_init_125 (by decide) ?_
  refine g_putf p_A_78 d_A_init_126 (ge1 (lt_of h)) rfl rfl (gqL rfl) ?_
  rw [st1 (lt_of h)]
  refine g_aload_n d_A_init_129 rfl ?_
  refine g_bipush 64 d_A_init_130 (by decide) ?_
  refine g_putf p_A_82 d_A_init_132 (ge1 (lt_of h)) rfl rfl (gqL rfl) ?_
  rw [st1 (lt_of h)]
  refine g_aload_n d_A_init_135 rfl ?_
  refine g_bipush 16 d_A_init_136 (by decide) ?_
  refine g_putf p_A_85 d_A_init_138 (ge1 (lt_of h)) rfl rfl (gqL rfl) ?_
  rw [st1 (lt_of h)]
  refine g_aload_n d_A_init_141 rfl ?_
  refine g_iconst (-1) d_A_init_142 (by decide) ?_
  refine g_putf p_A_88 d_A_init_143 (ge1 (lt_of h)) rfl rfl (gqL rfl) ?_
  rw [st1 (lt_of h)]
  exact g_vret d_A_init_146 rfl ⟨rfl, q1, q2, q3, q4, q5, q6, q7, q8, q9, q10, q11, q12, q13, q14, q15, q16, q17, A, q74, q75, q76, q77, q78, pf, sf, hpf, hsf, rfl⟩
end CA
