/-! Constructors, over lists: this lies at the place i, what is made is laid behind -/
theorem lt_of {ws : va_W} {i : Nat} {x : Nat × va_E} (h : ws[i]? = some x) : i < ws.length := (List.getElem?_eq_some_iff.mp h).1
theorem st1 {ws l : va_W} {i : Nat} {x y : Nat × va_E} (hi : i < ws.length) : (ws.set i x ++ l).set i y = ws.set i y ++ l := by rw [List.set_append_left _ _ (by rw [List.length_set]; exact hi), List.set_set]
theorem st0 {ws l : va_W} {i : Nat} {y : Nat × va_E} (hi : i < ws.length) : (ws ++ l).set i y = ws.set i y ++ l := List.set_append_left _ _ hi
theorem ge1 {ws l : va_W} {i : Nat} {x : Nat × va_E} (hi : i < ws.length) : (ws.set i x ++ l)[i]? = some x := by rw [List.getElem?_append_left (by rw [List.length_set]; exact hi), List.getElem?_set_self hi]
theorem ge0 {ws l : va_W} {i : Nat} {x : Nat × va_E} (h : ws[i]? = some x) : (ws ++ l)[i]? = some x := by rw [List.getElem?_append_left (lt_of h)]; exact h
section CT
variable {X : gX} {ws : va_W}
theorem i_R {i b : Nat} (h : ws[i]? = some (b, .inr (9, [.null, .int 0]))) : G X m_R_init 1 20 1 64 0 (lv_args 0 [.ref b]) [] ws (pV (fun w => ∃ q, w = ws.set i (b, .inr (9, [.ref q, .int 0])) ++ [(q, aI X 64 (fun _ => 0))])) := by
  refine g_aload_n d_R_init_0 rfl ?_
  refine g_obj w_85 w_28 w_29 d_R_init_1 (gq rfl) (gq rfl) (gq rfl) ?_
  refine g_aload_n d_R_init_4 rfl ?_
  refine g_bipush 64 d_R_init_5 (by decide) ?_
  refine g_newI (j := 64) d_R_init_7 rfl (gq rfl) (gq rfl) (gq rfl) (fun q => ?_)
  refine g_putF p_R_9 rfl d_R_init_9 (ge0 h) rfl rfl (gq rfl) ?_
  rw [st0 (lt_of h)]
  exact g_vret d_R_init_12 rfl ⟨rfl, q, rfl⟩
theorem i_W {i b : Nat} (h : ws[i]? = some (b, .inr (4, [.null, .int 0]))) : G X m_W_init 1 20 1 9 0 (lv_args 0 [.ref b]) [] ws (pV (fun w => ∃ q, w = ws.set i (b, .inr (4, [.ref q, .int 0])) ++ [(q, aI X 9 (fun _ => 0))])) := by
  refine g_aload_n d_W_init_0 rfl ?_
  refine g_obj w_121 w_28 w_29 d_W_init_1 (gq rfl) (gq rfl) (gq rfl) ?_
  refine g_aload_n d_W_init_4 rfl ?_
  refine g_bipush 9 d_W_init_5 (by decide) ?_
  refine g_newI (j := 9) d_W_init_7 rfl (gq rfl) (gq rfl) (gq rfl) (fun q => ?_)
  refine g_putF p_W_9 rfl d_W_init_9 (ge0 h) rfl rfl (gq rfl) ?_
  rw [st0 (lt_of h)]
  exact g_vret d_W_init_12 rfl ⟨rfl, q, rfl⟩
theorem i_T {i b : Nat} (h : ws[i]? = some (b, .inr (1, [.null, .null, .int 0, .int 0]))) : G X m_T_init 1 20 2 256 0 (lv_args 0 [.ref b]) [] ws (pV (fun w => ∃ q1 q2, w = ws.set i (b, .inr (1, [.ref q1, .ref q2, .int 0, .int 0])) ++ [(q1, aI X 192 (fun _ => 0)), (q2, aZ X 64 (fun _ => 0))])) := by
  refine g_aload_n d_T_init_0 rfl ?_
  refine g_obj w_35 w_28 w_29 d_T_init_1 (gq rfl) (gq rfl) (gq rfl) ?_
  refine g_aload_n d_T_init_4 rfl ?_
  refine g_sipush 192 d_T_init_5 (by decide) ?_
  refine g_newI (j := 192) d_T_init_8 rfl (gq rfl) (gq rfl) (gq rfl) (fun q1 => ?_)
  refine g_putF p_T_9 rfl d_T_init_10 (ge0 h) rfl rfl (gq rfl) ?_
  rw [st0 (lt_of h)]
  refine g_aload_n d_T_init_13 rfl ?_
  refine g_bipush 64 d_T_init_14 (by decide) ?_
  refine g_newZ (j := 64) d_T_init_16 rfl (gq rfl) (gq rfl) (gq rfl) (fun q2 => ?_)
  rw [List.append_assoc]
  refine g_putF p_T_15 rfl d_T_init_18 (ge1 (lt_of h)) rfl rfl (gq rfl) ?_
  rw [st1 (lt_of h)]
  exact g_vret d_T_init_21 rfl ⟨rfl, q1, q2, rfl⟩
theorem i_C {i b : Nat} (h : ws[i]? = some (b, .inr (2, [.null, .null, .null]))) : G X m_C_init 1 20 3 9 0 (lv_args 0 [.ref b]) [] ws (pV (fun w => ∃ q1 q2 q3, w = ws.set i (b, .inr (2, [.ref q1, .ref q2, .ref q3])) ++ [(q1, aI X 3 (fun _ => 0)), (q2, aI X 3 (fun _ => 0)), (q3, aI X 3 (fun _ => 0))])) := by
  refine g_aload_n d_C_init_0 rfl ?_
  refine g_obj w_61 w_28 w_29 d_C_init_1 (gq rfl) (gq rfl) (gq rfl) ?_
  refine g_aload_n d_C_init_4 rfl ?_
  refine g_iconst 3 d_C_init_5 (by decide) ?_
  refine g_newI (j := 3) d_C_init_6 rfl (gq rfl) (gq rfl) (gq rfl) (fun q1 => ?_)
  refine g_putF p_C_9 rfl d_C_init_8 (ge0 h) rfl rfl (gq rfl) ?_
  rw [st0 (lt_of h)]
  refine g_aload_n d_C_init_11 rfl ?_
  refine g_iconst 3 d_C_init_12 (by decide) ?_
  refine g_newI (j := 3) d_C_init_13 rfl (gq rfl) (gq rfl) (gq rfl) (fun q2 => ?_)
  rw [List.append_assoc]
  refine g_putF p_C_15 rfl d_C_init_15 (ge1 (lt_of h)) rfl rfl (gq rfl) ?_
  rw [st1 (lt_of h)]
  refine g_aload_n d_C_init_18 rfl ?_
  refine g_iconst 3 d_C_init_19 (by decide) ?_
  refine g_newI (j := 3) d_C_init_20 rfl (gq rfl) (gq rfl) (gq rfl) (fun q3 => ?_)
  rw [List.append_assoc]
  refine g_putF p_C_18 rfl d_C_init_22 (ge1 (lt_of h)) rfl rfl (gq rfl) ?_
  rw [st1 (lt_of h)]
  exact g_vret d_C_init_25 rfl ⟨rfl, q1, q2, q3, rfl⟩
end CT
