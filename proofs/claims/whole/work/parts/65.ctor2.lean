/-! Constructors: V, B, S, H -/
theorem stE {ws : va_W} {x y : Nat × va_E} : (ws ++ [x]).set ws.length y = ws ++ [y] := by simp
theorem geE {ws : va_W} {x : Nat × va_E} : (ws ++ [x])[ws.length]? = some x := by simp
section CU
variable {X : gX} {ws : va_W}
theorem i_V {i b t s l : Nat} (h : ws[i]? = some (b, .inr (7, [.null, .null, .null]))) : G X m_V_init 1 20 0 0 0 (lv_args 0 [.ref b, .ref t, .ref s, .ref l]) [] ws (pV (fun w => w = ws.set i (b, .inr (7, [.ref t, .ref s, .ref l])))) := by
  refine g_aload_n d_V_init_0 rfl ?_
  refine g_obj w_214 w_28 w_29 d_V_init_1 (gq rfl) (gq rfl) (gq rfl) ?_
  refine g_aload_n d_V_init_4 rfl ?_
  refine g_aload_n d_V_init_5 rfl ?_
  refine g_putF p_V_9 rfl d_V_init_6 h rfl rfl (gq rfl) ?_
  refine g_aload_n d_V_init_9 rfl ?_
  refine g_aload_n d_V_init_10 rfl ?_
  refine g_putF p_V_15 rfl d_V_init_11 (List.getElem?_set_self (lt_of h)) rfl rfl (gq rfl) ?_
  rw [List.set_set]
  refine g_aload_n d_V_init_14 rfl ?_
  refine g_aload_n d_V_init_15 rfl ?_
  refine g_putF p_V_19 rfl d_V_init_16 (List.getElem?_set_self (lt_of h)) rfl rfl (gq rfl) ?_
  rw [List.set_set]
  exact g_vret d_V_init_19 rfl ⟨rfl, rfl⟩
theorem i_S {i b t : Nat} (h : ws[i]? = some (b, .inr (3, [.null, .null, .int 0, .int 0, .int 0, .int 0]))) : G X m_S_init 2 40 2 66 0 (lv_args 0 [.ref b, .ref t]) [] ws (pV (fun w => ∃ q1 q2, w = ws.set i (b, .inr (3, [.ref t, .ref q1, .int 0, .int 0, .int 0, .int 0])) ++ [(q1, .inr (9, [.ref q2, .int 0])), (q2, aI X 64 (fun _ => 0))])) := by
  refine g_aload_n d_S_init_0 rfl ?_
  refine g_obj w_79 w_28 w_29 d_S_init_1 (gq rfl) (gq rfl) (gq rfl) ?_
  refine g_aload_n d_S_init_4 rfl ?_
  refine g_new (ci := 9) (fs := [.null, .int 0]) rfl w_80 w_81 w_5 ws_R ty_R tyok_R (by decide) d_S_init_5 (gq rfl) (gq rfl) (fun q1 => ?_)
  refine g_dup d_S_init_8 rfl ?_
  refine g_iV [] c_S_11 d_S_init_9 (i_R (i := ws.length) geE) (fun w hw => ?_) rfl rfl (gq rfl) (gq rfl) (gq rfl) (gq rfl) (gq rfl) (gq rfl)
  obtain ⟨q2, rfl⟩ := hw
  rw [stE, List.append_assoc]
  refine g_putF p_S_12 rfl d_S_init_12 (ge0 h) rfl rfl (gq rfl) ?_
  rw [st0 (lt_of h)]
  refine g_aload_n d_S_init_15 rfl ?_
  refine g_aload_n d_S_init_16 rfl ?_
  refine g_putF p_S_18 rfl d_S_init_17 (ge1 (lt_of h)) rfl rfl (gq rfl) ?_
  rw [st1 (lt_of h)]
  exact g_vret d_S_init_20 rfl ⟨rfl, q1, q2, rfl⟩
theorem i_B {i b t : Nat} (h : ws[i]? = some (b, .inr (8, [.null, .null, .int 0, .int 0, .int 0]))) : G X m_B_init 1 20 1 9 0 (lv_args 0 [.ref b, .ref t]) [] ws (pV (fun w => ∃ q, w = ws.set i (b, .inr (8, [.ref t, .ref q, .int (-1), .int 0, .int 0])) ++ [(q, aI X 9 (fun _ => 0))])) := by
  refine g_aload_n d_B_init_0 rfl ?_
  refine g_obj w_230 w_28 w_29 d_B_init_1 (gq rfl) (gq rfl) (gq rfl) ?_
  refine g_aload_n d_B_init_4 rfl ?_
  refine g_bipush 9 d_B_init_5 (by decide) ?_
  refine g_newI (j := 9) d_B_init_7 rfl (gq rfl) (gq rfl) (gq rfl) (fun q => ?_)
  refine g_putF p_B_9 rfl d_B_init_9 (ge0 h) rfl rfl (gq rfl) ?_
  rw [st0 (lt_of h)]
  refine g_aload_n d_B_init_12 rfl ?_
  refine g_aload_n d_B_init_13 rfl ?_
  refine g_putF p_B_15 rfl d_B_init_14 (ge1 (lt_of h)) rfl rfl (gq rfl) ?_
  rw [st1 (lt_of h)]
  refine g_aload_n d_B_init_17 rfl ?_
  refine g_iconst (-1) d_B_init_18 (by decide) ?_
  refine g_putf p_B_19 d_B_init_19 (ge1 (lt_of h)) rfl rfl (gqL rfl) ?_
  rw [st1 (lt_of h)]
  exact g_vret d_B_init_22 rfl ⟨rfl, q, rfl⟩
theorem i_H {i b : Nat} (h : ws[i]? = some (b, .inr (10, [.null, .null, .int 0]))) : G X m_H_init 2 40 6 23 0 (lv_args 0 [.ref b]) [] ws (pV (fun w => ∃ q1 q2 q3 q4 q5 q6, w = ws.set i (b, .inr (10, [.ref q1, .ref q5, .int 0])) ++ [(q1, .inr (2, [.ref q2, .ref q3, .ref q4])), (q2, aI X 3 (fun _ => 0)), (q3, aI X 3 (fun _ => 0)), (q4, aI X 3 (fun _ => 0)), (q5, .inr (4, [.ref q6, .int 0])), (q6, aI X 9 (fun _ => 0))])) := by
  refine g_aload_n d_H_init_0 rfl ?_
  refine g_obj w_171 w_28 w_29 d_H_init_1 (gq rfl) (gq rfl) (gq rfl) ?_
  refine g_aload_n d_H_init_4 rfl ?_
  refine g_new (ci := 2) (fs := [.null, .null, .null]) rfl w_172 w_57 w_3 ws_C ty_C tyok_C (by decide) d_H_init_5 (gq rfl) (gq rfl) (fun q1 => ?_)
  refine g_dup d_H_init_8 rfl ?_
  refine g_iV [] c_H_9 d_H_init_9 (i_C (i := ws.length) geE) (fun w hw => ?_) rfl rfl (gq rfl) (gq rfl) (gq rfl) (gq rfl) (gq rfl) (gq rfl)
  obtain ⟨q2, q3, q4, rfl⟩ := hw
  rw [stE, List.append_assoc]
  refine g_putF p_H_10 rfl d_H_init_12 (ge0 h) rfl rfl (gq rfl) ?_
  rw [st0 (lt_of h)]
  refine g_aload_n d_H_init_15 rfl ?_
  refine g_new (ci := 4) (fs := [.null, .int 0]) rfl w_174 w_117 w_6 ws_W ty_W tyok_W (by decide) d_H_init_16 (gq rfl) (gq rfl) (fun q5 => ?_)
  refine g_dup d_H_init_19 rfl ?_
  refine g_iV [] c_H_18 d_H_init_20 (i_W geE) (fun w hw => ?_) rfl rfl (gq rfl) (gq rfl) (gq rfl) (gq rfl) (gq rfl) (gq rfl)
  obtain ⟨q6, rfl⟩ := hw
  rw [stE, List.append_assoc, List.append_assoc]
  refine g_putF p_H_19 rfl d_H_init_23 (ge1 (lt_of h)) rfl rfl (gq rfl) ?_
  rw [st1 (lt_of h)]
  exact g_vret d_H_init_26 rfl ⟨rfl, q1, q2, q3, q4, q5, q6, rfl⟩
end CU
