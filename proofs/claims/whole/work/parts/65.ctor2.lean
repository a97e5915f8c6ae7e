/-! Constructors: V, B, S, H -/
theorem stE {ws : va_W} {x y : Nat × va_E} : (ws ++ [x]).set ws.length y = ws ++ [y] := by simp
theorem geE {ws : va_W} {x : Nat × va_E} : (ws ++ [x])[ws.length]? = some x := by simp
section CU
variable {X : gX} {ws : va_W}
theorem i_V {i b t s l : Nat} (h : ws[i]? = some (b, .inr (7, [.null, .null, .null]))) : G X m_V_init 1 20 0 0 0 (lv_args 0 [.ref b, .ref t, .ref s, .ref l]) [] ws (pV (fun w => w = ws.set i (b, .inr (7, [.ref t, .ref s, .ref l])))) := by
  refine g_aload_n d_V_init_0 rfl ?_
  refine g_obj w_214 w_28 w_29 d_V_init_1 (gq rfl) (gq rfl) (gq rfl) ?_
  refine g_aload_n d_V_init_4 rfl ?_
  refine g_aload_n d_V_init_5 rfl ?_
  refine g_putF p_V_9 rfl d_V_init_6 h rfl rfl (gq rfl) ?_
  refine g_aload_n d_V_init_9 rfl ?_
  refine g_aload_n d_V_init_10 rfl ?_
  refine g_putF p_V_15 rfl d_V_init_11 (List.getElem?_set_self (lt_of h)) rfl rfl (gq rfl) ?_
  rw [List.set_set]
  refine g_aload_n d_V_init_14 rfl ?_
  refine g_aload_n d_V_init_15 rfl ?_
  refine g_putF p_V_19 rfl d_V_init_16 (List.getElem?_set_self (lt_of h)) rfl rfl (gq rfl) ?_
  rw [List.set_set]
  exact g_vret d_V_init_19 rfl ⟨rfl, rfl⟩
theorem i_S {i b t : Nat} (h : ws[i]? = some (b, .inr (3, [.null, .null, .int 0, .int 0, .int 0, .int 0]))) : G X m_S_init 2 40 2 66 0 (lv_args 0 [.ref b, .ref t]) [] ws (pV (fun w => ∃ q1 q2, w = ws.set i (b, .inr (3, [.ref t, .ref q1, .int 0, .int 0, .int 0, .int 0])) ++ [(q1, .inr (9, [.ref q2, .int 0])), (q2, aI X 64 (fun _ => 0))])) := by
  refine g_aload_n d_S_init_0 rfl ?_
  refine g_obj w_79 w_28 w_29 d_S_init_1 (gq rfl) (gq rfl) (gq rfl) ?_
  refine g_aload_n d_S_init_4 rfl ?_
  refine g_new (ci := 9) (fs := [.null, .int 0]) rfl w_80 w_81 w_5 ws_R ty_R tyok_R (by decide) d_S_init_5 (gq rfl) (gq rfl) (fun q1 => ?_)
  refine g_dup d_S_init_8 rfl ?_
  refine g_iV [] c_S_11 d_S_init_9 (i_R (i := ws.length) geE) (fun w hw => ?_) rfl rfl (gq rfl) (gq rfl) (gq rfl) (gq rfl) (gq rfl) (gq rfl)
  obtain ⟨q2, rfl⟩ := hw
  rw [stE, List.append_assoc]
  refine g_putF p_S_12 rfl d_S_init_12 (ge0 h) rfl rfl (gq rfl) ?_
  rw [st0 (lt_of h)]
  refine g_aload_n d_S_init_15 rfl ?_
  refine g_aload_n d_S_init_16 rfl ?_
  refine g_putF p_S_18 rfl d_S_init_17 (ge1 (lt_of h)) rfl rfl (gq rfl) ?_
  rw [st1 (lt_of h)]
  exact g_vret d_S_init_20 rfl ⟨rfl, q1, q2, rfl⟩
end CU
