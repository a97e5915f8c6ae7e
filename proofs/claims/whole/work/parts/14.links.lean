/-! link rows (wip/emit.py): fields, calls -/
theorem c_A_11 : gCI "SelfArranger" 11 m_T_init 0 := ⟨(Or.inl ⟨rfl, w_34⟩), rfl, rfl, w_34, (Or.inr ⟨"SelfArranger", w_32⟩), w_33, rfl, ⟨by decide, by decide, by decide +kernel, by decide⟩⟩
theorem p_A_12 : gFp "SelfArranger" 12 0 0 (.object "SelfArranger$Table") true := ⟨"SelfArranger", T_A, 14, ty_A, rfl, by decide, ws_A, (Or.inl w_250), tyok_A, nm_A, rfl, by decide +kernel, fun _ => ⟨rfl, w_250⟩⟩
theorem c_A_18 : gCI "SelfArranger" 18 m_C_init 0 := ⟨(Or.inl ⟨rfl, w_60⟩), rfl, rfl, w_60, (Or.inr ⟨"SelfArranger", w_58⟩), w_59, rfl, ⟨by decide, by decide, by decide +kernel, by decide⟩⟩
theorem p_A_19 : gFp "SelfArranger" 19 0 1 (.object "SelfArranger$Conditions") true := ⟨"SelfArranger", T_A, 14, ty_A, rfl, by decide, ws_A, (Or.inl w_251), tyok_A, nm_A, rfl, by decide +kernel, fun _ => ⟨rfl, w_251⟩⟩
theorem g_A_12 : gFg "SelfArranger" 12 0 0 := ⟨"SelfArranger", T_A, 14, rfl, by decide, ws_A, (Or.inl w_250)⟩
theorem c_A_25 : gCI "SelfArranger" 25 m_S_init 1 := ⟨(Or.inl ⟨rfl, w_78⟩), rfl, rfl, w_78, (Or.inr ⟨"SelfArranger", w_76⟩), w_77, rfl, ⟨by decide, by decide, by decide +kernel, by decide⟩⟩
theorem p_A_28 : gFp "SelfArranger" 28 0 2 (.object "SelfArranger$Stretch") true := ⟨"SelfArranger", T_A, 14, ty_A, rfl, by decide, ws_A, (Or.inl w_252), tyok_A, nm_A, rfl, by decide +kernel, fun _ => ⟨rfl, w_252⟩⟩
theorem c_A_34 : gCI "SelfArranger" 34 m_W_init 0 := ⟨(Or.inl ⟨rfl, w_120⟩), rfl, rfl, w_120, (Or.inr ⟨"SelfArranger", w_118⟩), w_119, rfl, ⟨by decide, by decide, by decide +kernel, by decide⟩⟩
theorem p_A_35 : gFp "SelfArranger" 35 0 3 (.object "SelfArranger$WayCosts") true := ⟨"SelfArranger", T_A, 14, ty_A, rfl, by decide, ws_A, (Or.inl w_253), tyok_A, nm_A, rfl, by decide +kernel, fun _ => ⟨rfl, w_253⟩⟩
theorem c_A_41 : gCI "SelfArranger" 41 m_P_init 1 := ⟨(Or.inl ⟨rfl, w_133⟩), rfl, rfl, w_133, (Or.inr ⟨"SelfArranger", w_131⟩), w_132, rfl, ⟨by decide, by decide, by decide +kernel, by decide⟩⟩
theorem p_A_44 : gFp "SelfArranger" 44 0 4 (.object "SelfArranger$Pool") true := ⟨"SelfArranger", T_A, 14, ty_A, rfl, by decide, ws_A, (Or.inl w_254), tyok_A, nm_A, rfl, by decide +kernel, fun _ => ⟨rfl, w_254⟩⟩
theorem c_A_50 : gCI "SelfArranger" 50 m_D_init 0 := ⟨(Or.inl ⟨rfl, w_163⟩), rfl, rfl, w_163, (Or.inr ⟨"SelfArranger", w_161⟩), w_162, rfl, ⟨by decide, by decide, by decide +kernel, by decide⟩⟩
theorem p_A_51 : gFp "SelfArranger" 51 0 5 (.object "SelfArranger$Ledger") true := ⟨"SelfArranger", T_A, 14, ty_A, rfl, by decide, ws_A, (Or.inl w_255), tyok_A, nm_A, rfl, by decide +kernel, fun _ => ⟨rfl, w_255⟩⟩
theorem g_A_28 : gFg "SelfArranger" 28 0 2 := ⟨"SelfArranger", T_A, 14, rfl, by decide, ws_A, (Or.inl w_252)⟩
theorem g_A_51 : gFg "SelfArranger" 51 0 5 := ⟨"SelfArranger", T_A, 14, rfl, by decide, ws_A, (Or.inl w_255)⟩
theorem c_A_57 : gCI "SelfArranger" 57 m_V_init 3 := ⟨(Or.inl ⟨rfl, w_213⟩), rfl, rfl, w_213, (Or.inr ⟨"SelfArranger", w_211⟩), w_212, rfl, ⟨by decide, by decide, by decide +kernel, by decide⟩⟩
theorem p_A_60 : gFp "SelfArranger" 60 0 6 (.object "SelfArranger$Adviser") true := ⟨"SelfArranger", T_A, 14, ty_A, rfl, by decide, ws_A, (Or.inl w_256), tyok_A, nm_A, rfl, by decide +kernel, fun _ => ⟨rfl, w_256⟩⟩
theorem c_A_66 : gCI "SelfArranger" 66 m_B_init 1 := ⟨(Or.inl ⟨rfl, w_229⟩), rfl, rfl, w_229, (Or.inr ⟨"SelfArranger", w_227⟩), w_228, rfl, ⟨by decide, by decide, by decide +kernel, by decide⟩⟩
theorem p_A_67 : gFp "SelfArranger" 67 0 7 (.object "SelfArranger$Builder") true := ⟨"SelfArranger", T_A, 14, ty_A, rfl, by decide, ws_A, (Or.inl w_257), tyok_A, nm_A, rfl, by decide +kernel, fun _ => ⟨rfl, w_257⟩⟩
theorem c_A_73 : gCI "SelfArranger" 73 m_R_init 0 := ⟨(Or.inl ⟨rfl, w_84⟩), rfl, rfl, w_84, (Or.inr ⟨"SelfArranger", w_249⟩), w_83, rfl, ⟨by decide, by decide, by decide +kernel, by decide⟩⟩
theorem p_A_74 : gFp "SelfArranger" 74 0 8 (.object "SelfArranger$RowList") true := ⟨"SelfArranger", T_A, 14, ty_A, rfl, by decide, ws_A, (Or.inl w_258), tyok_A, nm_A, rfl, by decide +kernel, fun _ => ⟨rfl, w_258⟩⟩
theorem p_A_78 : gFp "SelfArranger" 78 0 9 .int false := ⟨"SelfArranger", T_A, 14, ty_A, rfl, by decide, ws_A, (Or.inl w_259), tyok_A, nm_A, rfl, by decide +kernel, fun h => by cases h⟩
theorem p_A_82 : gFp "SelfArranger" 82 0 10 .int false := ⟨"SelfArranger", T_A, 14, ty_A, rfl, by decide, ws_A, (Or.inl w_260), tyok_A, nm_A, rfl, by decide +kernel, fun h => by cases h⟩
theorem p_A_85 : gFp "SelfArranger" 85 0 11 .int false := ⟨"SelfArranger", T_A, 14, ty_A, rfl, by decide, ws_A, (Or.inl w_261), tyok_A, nm_A, rfl, by decide +kernel, fun h => by cases h⟩
theorem p_A_88 : gFp "SelfArranger" 88 0 12 .int false := ⟨"SelfArranger", T_A, 14, ty_A, rfl, by decide, ws_A, (Or.inl w_262), tyok_A, nm_A, rfl, by decide +kernel, fun h => by cases h⟩
theorem p_T_9 : gFp "SelfArranger$Table" 9 1 0 (.array .int) true := ⟨"SelfArranger$Table", T_T, 4, ty_T, rfl, by decide, ws_T, (Or.inl w_36), tyok_T, nm_T, rfl, by decide +kernel, fun _ => ⟨rfl, w_36⟩⟩
theorem p_T_15 : gFp "SelfArranger$Table" 15 1 1 (.array .boolean) true := ⟨"SelfArranger$Table", T_T, 4, ty_T, rfl, by decide, ws_T, (Or.inl w_37), tyok_T, nm_T, rfl, by decide +kernel, fun _ => ⟨rfl, w_37⟩⟩
theorem p_C_9 : gFp "SelfArranger$Conditions" 9 2 0 (.array .int) true := ⟨"SelfArranger$Conditions", T_C, 3, ty_C, rfl, by decide, ws_C, (Or.inl w_62), tyok_C, nm_C, rfl, by decide +kernel, fun _ => ⟨rfl, w_62⟩⟩
theorem p_C_15 : gFp "SelfArranger$Conditions" 15 2 1 (.array .int) true := ⟨"SelfArranger$Conditions", T_C, 3, ty_C, rfl, by decide, ws_C, (Or.inl w_64), tyok_C, nm_C, rfl, by decide +kernel, fun _ => ⟨rfl, w_64⟩⟩
theorem p_C_18 : gFp "SelfArranger$Conditions" 18 2 2 (.array .int) true := ⟨"SelfArranger$Conditions", T_C, 3, ty_C, rfl, by decide, ws_C, (Or.inl w_66), tyok_C, nm_C, rfl, by decide +kernel, fun _ => ⟨rfl, w_66⟩⟩
theorem c_S_11 : gCI "SelfArranger$Stretch" 11 m_R_init 0 := ⟨(Or.inl ⟨rfl, w_84⟩), rfl, rfl, w_84, (Or.inr ⟨"SelfArranger", w_82⟩), w_83, rfl, ⟨by decide, by decide, by decide +kernel, by decide⟩⟩
theorem p_S_12 : gFp "SelfArranger$Stretch" 12 3 1 (.object "SelfArranger$RowList") true := ⟨"SelfArranger$Stretch", T_S, 6, ty_S, rfl, by decide, ws_S, (Or.inl w_97), tyok_S, nm_S, rfl, by decide +kernel, fun _ => ⟨rfl, w_97⟩⟩
theorem p_S_18 : gFp "SelfArranger$Stretch" 18 3 0 (.object "SelfArranger$Table") true := ⟨"SelfArranger$Stretch", T_S, 6, ty_S, rfl, by decide, ws_S, (Or.inl w_96), tyok_S, nm_S, rfl, by decide +kernel, fun _ => ⟨rfl, w_96⟩⟩
theorem p_R_9 : gFp "SelfArranger$RowList" 9 9 0 (.array .int) true := ⟨"SelfArranger$RowList", T_R, 2, ty_R, rfl, by decide, ws_R, (Or.inl w_86), tyok_R, nm_R, rfl, by decide +kernel, fun _ => ⟨rfl, w_86⟩⟩
theorem p_W_9 : gFp "SelfArranger$WayCosts" 9 4 0 (.array .int) true := ⟨"SelfArranger$WayCosts", T_W, 2, ty_W, rfl, by decide, ws_W, (Or.inl w_122), tyok_W, nm_W, rfl, by decide +kernel, fun _ => ⟨rfl, w_122⟩⟩
theorem p_P_20 : gFp "SelfArranger$Pool" 20 5 0 (.array .int) true := ⟨"SelfArranger$Pool", T_P, 5, ty_P, rfl, by decide, ws_P, (Or.inl w_141), tyok_P, nm_P, rfl, by decide +kernel, fun _ => ⟨rfl, w_141⟩⟩
theorem p_P_24 : gFp "SelfArranger$Pool" 24 5 1 (.array .boolean) true := ⟨"SelfArranger$Pool", T_P, 5, ty_P, rfl, by decide, ws_P, (Or.inl w_142), tyok_P, nm_P, rfl, by decide +kernel, fun _ => ⟨rfl, w_142⟩⟩
theorem g_P_20 : gFg "SelfArranger$Pool" 20 5 0 := ⟨"SelfArranger$Pool", T_P, 5, rfl, by decide, ws_P, (Or.inl w_141)⟩
theorem p_D_11 : gFp "SelfArranger$Ledger" 11 6 0 (.array (.object "SelfArranger$Shape")) true := ⟨"SelfArranger$Ledger", T_D, 3, ty_D, rfl, by decide, ws_D, (Or.inl w_193), tyok_D, nm_D, rfl, by decide +kernel, fun _ => ⟨rfl, w_193⟩⟩
theorem g_D_11 : gFg "SelfArranger$Ledger" 11 6 0 := ⟨"SelfArranger$Ledger", T_D, 3, rfl, by decide, ws_D, (Or.inl w_193)⟩
theorem c_D_15 : gCI "SelfArranger$Ledger" 15 m_H_init 0 := ⟨(Or.inl ⟨rfl, w_170⟩), rfl, rfl, w_170, (Or.inr ⟨"SelfArranger", w_168⟩), w_169, rfl, ⟨by decide, by decide, by decide +kernel, by decide⟩⟩
theorem c_H_9 : gCI "SelfArranger$Shape" 9 m_C_init 0 := ⟨(Or.inl ⟨rfl, w_60⟩), rfl, rfl, w_60, (Or.inr ⟨"SelfArranger", w_173⟩), w_59, rfl, ⟨by decide, by decide, by decide +kernel, by decide⟩⟩
theorem p_H_10 : gFp "SelfArranger$Shape" 10 10 0 (.object "SelfArranger$Conditions") true := ⟨"SelfArranger$Shape", T_H, 3, ty_H, rfl, by decide, ws_H, (Or.inl w_176), tyok_H, nm_H, rfl, by decide +kernel, fun _ => ⟨rfl, w_176⟩⟩
theorem c_H_18 : gCI "SelfArranger$Shape" 18 m_W_init 0 := ⟨(Or.inl ⟨rfl, w_120⟩), rfl, rfl, w_120, (Or.inr ⟨"SelfArranger", w_175⟩), w_119, rfl, ⟨by decide, by decide, by decide +kernel, by decide⟩⟩
theorem p_H_19 : gFp "SelfArranger$Shape" 19 10 1 (.object "SelfArranger$WayCosts") true := ⟨"SelfArranger$Shape", T_H, 3, ty_H, rfl, by decide, ws_H, (Or.inl w_180), tyok_H, nm_H, rfl, by decide +kernel, fun _ => ⟨rfl, w_180⟩⟩
theorem p_V_9 : gFp "SelfArranger$Adviser" 9 7 0 (.object "SelfArranger$Table") true := ⟨"SelfArranger$Adviser", T_V, 3, ty_V, rfl, by decide, ws_V, (Or.inl w_215), tyok_V, nm_V, rfl, by decide +kernel, fun _ => ⟨rfl, w_215⟩⟩
theorem p_V_15 : gFp "SelfArranger$Adviser" 15 7 1 (.object "SelfArranger$Stretch") true := ⟨"SelfArranger$Adviser", T_V, 3, ty_V, rfl, by decide, ws_V, (Or.inl w_216), tyok_V, nm_V, rfl, by decide +kernel, fun _ => ⟨rfl, w_216⟩⟩
theorem p_V_19 : gFp "SelfArranger$Adviser" 19 7 2 (.object "SelfArranger$Ledger") true := ⟨"SelfArranger$Adviser", T_V, 3, ty_V, rfl, by decide, ws_V, (Or.inl w_217), tyok_V, nm_V, rfl, by decide +kernel, fun _ => ⟨rfl, w_217⟩⟩
theorem p_B_9 : gFp "SelfArranger$Builder" 9 8 1 (.array .int) true := ⟨"SelfArranger$Builder", T_B, 5, ty_B, rfl, by decide, ws_B, (Or.inl w_232), tyok_B, nm_B, rfl, by decide +kernel, fun _ => ⟨rfl, w_232⟩⟩
theorem p_B_15 : gFp "SelfArranger$Builder" 15 8 0 (.object "SelfArranger$Table") true := ⟨"SelfArranger$Builder", T_B, 5, ty_B, rfl, by decide, ws_B, (Or.inl w_231), tyok_B, nm_B, rfl, by decide +kernel, fun _ => ⟨rfl, w_231⟩⟩
theorem p_B_19 : gFp "SelfArranger$Builder" 19 8 2 .int false := ⟨"SelfArranger$Builder", T_B, 5, ty_B, rfl, by decide, ws_B, (Or.inl w_234), tyok_B, nm_B, rfl, by decide +kernel, fun h => by cases h⟩
theorem c_A_139 : gCV "SelfArranger" 139 m_A_takeCheapestWay 0 := ⟨(Or.inl ⟨rfl, w_300⟩), (Or.inl w_297), w_299, wp_0, ⟨by decide, by decide, by decide +kernel, by decide⟩⟩
theorem c_A_142 : gCV "SelfArranger" 142 m_A_touchPages 0 := ⟨(Or.inl ⟨rfl, w_383⟩), (Or.inl w_380), w_382, wp_18, ⟨by decide, by decide, by decide +kernel, by decide⟩⟩
theorem c_A_145 : gCV "SelfArranger" 145 m_A_findAnswer 0 := ⟨(Or.inl ⟨rfl, w_448⟩), (Or.inl w_445), w_447, wp_31, ⟨by decide, by decide, by decide +kernel, by decide⟩⟩
theorem g_A_19 : gFg "SelfArranger" 19 0 1 := ⟨"SelfArranger", T_A, 14, rfl, by decide, ws_A, (Or.inl w_251)⟩
theorem c_A_148 : gCV "SelfArranger" 148 m_D_noteQuery 1 := ⟨(Or.inl ⟨rfl, w_461⟩), (Or.inr ⟨"SelfArranger", w_458⟩), w_460, wp_33, ⟨by decide, by decide, by decide +kernel, by decide⟩⟩
theorem g_A_74 : gFg "SelfArranger" 74 0 8 := ⟨"SelfArranger", T_A, 14, rfl, by decide, ws_A, (Or.inl w_258)⟩
theorem g_A_152 : gFg "SelfArranger" 152 9 1 := ⟨"SelfArranger$RowList", T_R, 2, rfl, by decide, ws_R, (Or.inr ⟨"SelfArranger", w_90⟩)⟩
theorem g_A_35 : gFg "SelfArranger" 35 0 3 := ⟨"SelfArranger", T_A, 14, rfl, by decide, ws_A, (Or.inl w_253)⟩
theorem c_A_178 : gCV "SelfArranger" 178 m_W_measure 3 := ⟨(Or.inl ⟨rfl, w_304⟩), (Or.inr ⟨"SelfArranger", w_301⟩), w_303, wp_1, ⟨by decide, by decide, by decide +kernel, by decide⟩⟩
theorem g_A_67 : gFg "SelfArranger" 67 0 7 := ⟨"SelfArranger", T_A, 14, rfl, by decide, ws_A, (Or.inl w_257)⟩
theorem c_A_225 : gCV "SelfArranger" 225 m_B_readySet 0 := ⟨(Or.inl ⟨rfl, w_370⟩), (Or.inr ⟨"SelfArranger", w_367⟩), w_369, wp_15, ⟨by decide, by decide, by decide +kernel, by decide⟩⟩
theorem c_A_292 : gCV "SelfArranger" 292 m_W_cheapest 1 := ⟨(Or.inl ⟨rfl, w_374⟩), (Or.inr ⟨"SelfArranger", w_371⟩), w_373, wp_16, ⟨by decide, by decide, by decide +kernel, by decide⟩⟩
theorem g_A_88 : gFg "SelfArranger" 88 0 12 := ⟨"SelfArranger", T_A, 14, rfl, by decide, ws_A, (Or.inl w_262)⟩
theorem c_A_182 : gCV "SelfArranger" 182 m_W_at 1 := ⟨(Or.inl ⟨rfl, w_378⟩), (Or.inr ⟨"SelfArranger", w_379⟩), w_377, wp_17, ⟨by decide, by decide, by decide +kernel, by decide⟩⟩
theorem p_A_164 : gFp "SelfArranger" 164 0 13 .int false := ⟨"SelfArranger", T_A, 14, ty_A, rfl, by decide, ws_A, (Or.inl w_263), tyok_A, nm_A, rfl, by decide +kernel, fun h => by cases h⟩
theorem c_W_15 : gCV "SelfArranger$WayCosts" 15 m_T_heapPages 0 := ⟨(Or.inl ⟨rfl, w_308⟩), (Or.inr ⟨"SelfArranger", w_305⟩), w_307, wp_2, ⟨by decide, by decide, by decide +kernel, by decide⟩⟩
theorem p_W_21 : gFp "SelfArranger$WayCosts" 21 4 1 .int false := ⟨"SelfArranger$WayCosts", T_W, 2, ty_W, rfl, by decide, ws_W, (Or.inl w_123), tyok_W, nm_W, rfl, by decide +kernel, fun h => by cases h⟩
theorem g_W_9 : gFg "SelfArranger$WayCosts" 9 4 0 := ⟨"SelfArranger$WayCosts", T_W, 2, rfl, by decide, ws_W, (Or.inl w_122)⟩
theorem c_W_28 : gCV "SelfArranger$WayCosts" 28 m_C_binds 1 := ⟨(Or.inl ⟨rfl, w_317⟩), (Or.inr ⟨"SelfArranger", w_314⟩), w_316, wp_3, ⟨by decide, by decide, by decide +kernel, by decide⟩⟩
theorem c_W_34 : gCV "SelfArranger$WayCosts" 34 m_S_lay 2 := ⟨(Or.inl ⟨rfl, w_321⟩), (Or.inr ⟨"SelfArranger", w_318⟩), w_320, wp_4, ⟨by decide, by decide, by decide +kernel, by decide⟩⟩
theorem c_W_40 : gCV "SelfArranger$WayCosts" 40 m_S_pages 0 := ⟨(Or.inl ⟨rfl, w_353⟩), (Or.inr ⟨"SelfArranger", w_350⟩), w_352, wp_11, ⟨by decide, by decide, by decide +kernel, by decide⟩⟩
theorem g_T_19 : gFg "SelfArranger$Table" 19 1 2 := ⟨"SelfArranger$Table", T_T, 4, rfl, by decide, ws_T, (Or.inl w_40)⟩
theorem c_T_30 : gCS "SelfArranger$Table" 30 m_A_groupsOfFour 1 := ⟨(Or.inl ⟨rfl, w_311⟩), (Or.inr ⟨"SelfArranger", w_309⟩), w_310, w_1, ⟨by decide, by decide, by decide +kernel, by decide⟩⟩
theorem g_C_9 : gFg "SelfArranger$Conditions" 9 2 0 := ⟨"SelfArranger$Conditions", T_C, 3, rfl, by decide, ws_C, (Or.inl w_62)⟩
theorem p_S_26 : gFp "SelfArranger$Stretch" 26 3 2 .int false := ⟨"SelfArranger$Stretch", T_S, 6, ty_S, rfl, by decide, ws_S, (Or.inl w_99), tyok_S, nm_S, rfl, by decide +kernel, fun h => by cases h⟩
theorem p_S_33 : gFp "SelfArranger$Stretch" 33 3 3 .int false := ⟨"SelfArranger$Stretch", T_S, 6, ty_S, rfl, by decide, ws_S, (Or.inl w_100), tyok_S, nm_S, rfl, by decide +kernel, fun h => by cases h⟩
theorem g_S_33 : gFg "SelfArranger$Stretch" 33 3 3 := ⟨"SelfArranger$Stretch", T_S, 6, rfl, by decide, ws_S, (Or.inl w_100)⟩
theorem g_S_36 : gFg "SelfArranger$Stretch" 36 2 0 := ⟨"SelfArranger$Conditions", T_C, 3, rfl, by decide, ws_C, (Or.inr ⟨"SelfArranger", w_63⟩)⟩
theorem g_S_26 : gFg "SelfArranger$Stretch" 26 3 2 := ⟨"SelfArranger$Stretch", T_S, 6, rfl, by decide, ws_S, (Or.inl w_99)⟩
theorem c_S_41 : gCV "SelfArranger$Stretch" 41 m_C_binds 1 := ⟨(Or.inl ⟨rfl, w_317⟩), (Or.inr ⟨"SelfArranger", w_325⟩), w_316, wp_3, ⟨by decide, by decide, by decide +kernel, by decide⟩⟩
theorem p_S_45 : gFp "SelfArranger$Stretch" 45 3 4 .boolean false := ⟨"SelfArranger$Stretch", T_S, 6, ty_S, rfl, by decide, ws_S, (Or.inl w_101), tyok_S, nm_S, rfl, by decide +kernel, fun h => by cases h⟩
theorem p_S_49 : gFp "SelfArranger$Stretch" 49 3 5 .int false := ⟨"SelfArranger$Stretch", T_S, 6, ty_S, rfl, by decide, ws_S, (Or.inl w_102), tyok_S, nm_S, rfl, by decide +kernel, fun h => by cases h⟩
theorem g_S_12 : gFg "SelfArranger$Stretch" 12 3 1 := ⟨"SelfArranger$Stretch", T_S, 6, rfl, by decide, ws_S, (Or.inl w_97)⟩
theorem p_S_52 : gFp "SelfArranger$Stretch" 52 9 1 .int false := ⟨"SelfArranger$RowList", T_R, 2, ty_R, rfl, by decide, ws_R, (Or.inr ⟨"SelfArranger", w_89⟩), tyok_R, nm_R, rfl, by decide +kernel, fun h => by cases h⟩
theorem g_S_18 : gFg "SelfArranger$Stretch" 18 3 0 := ⟨"SelfArranger$Stretch", T_S, 6, rfl, by decide, ws_S, (Or.inl w_96)⟩
theorem g_S_55 : gFg "SelfArranger$Stretch" 55 1 2 := ⟨"SelfArranger$Table", T_T, 4, rfl, by decide, ws_T, (Or.inr ⟨"SelfArranger", w_41⟩)⟩
theorem g_S_60 : gFg "SelfArranger$Stretch" 60 1 1 := ⟨"SelfArranger$Table", T_T, 4, rfl, by decide, ws_T, (Or.inr ⟨"SelfArranger", w_38⟩)⟩
theorem c_S_64 : gCV "SelfArranger$Stretch" 64 m_S_place 2 := ⟨(Or.inl ⟨rfl, w_329⟩), (Or.inl w_326), w_328, wp_5, ⟨by decide, by decide, by decide +kernel, by decide⟩⟩
theorem c_S_68 : gCV "SelfArranger$Stretch" 68 m_S_isBefore 2 := ⟨(Or.inl ⟨rfl, w_333⟩), (Or.inl w_330), w_332, wp_6, ⟨by decide, by decide, by decide +kernel, by decide⟩⟩
theorem g_S_49 : gFg "SelfArranger$Stretch" 49 3 5 := ⟨"SelfArranger$Stretch", T_S, 6, rfl, by decide, ws_S, (Or.inl w_102)⟩
theorem c_S_72 : gCV "SelfArranger$Stretch" 72 m_S_isInside 2 := ⟨(Or.inl ⟨rfl, w_341⟩), (Or.inl w_338), w_340, wp_8, ⟨by decide, by decide, by decide +kernel, by decide⟩⟩
theorem c_S_75 : gCV "SelfArranger$Stretch" 75 m_R_append 1 := ⟨(Or.inl ⟨rfl, w_349⟩), (Or.inr ⟨"SelfArranger", w_346⟩), w_348, wp_10, ⟨by decide, by decide, by decide +kernel, by decide⟩⟩
theorem c_S_79 : gCV "SelfArranger$Stretch" 79 m_T_at 2 := ⟨(Or.inl ⟨rfl, w_337⟩), (Or.inr ⟨"SelfArranger", w_334⟩), w_336, wp_7, ⟨by decide, by decide, by decide +kernel, by decide⟩⟩
theorem g_S_83 : gFg "SelfArranger$Stretch" 83 2 1 := ⟨"SelfArranger$Conditions", T_C, 3, rfl, by decide, ws_C, (Or.inr ⟨"SelfArranger", w_65⟩)⟩
theorem g_S_45 : gFg "SelfArranger$Stretch" 45 3 4 := ⟨"SelfArranger$Stretch", T_S, 6, rfl, by decide, ws_S, (Or.inl w_101)⟩
theorem g_T_9 : gFg "SelfArranger$Table" 9 1 0 := ⟨"SelfArranger$Table", T_T, 4, rfl, by decide, ws_T, (Or.inl w_36)⟩
theorem c_S_86 : gCV "SelfArranger$Stretch" 86 m_C_fit 2 := ⟨(Or.inl ⟨rfl, w_345⟩), (Or.inr ⟨"SelfArranger", w_342⟩), w_344, wp_9, ⟨by decide, by decide, by decide +kernel, by decide⟩⟩
theorem g_C_15 : gFg "SelfArranger$Conditions" 15 2 1 := ⟨"SelfArranger$Conditions", T_C, 3, rfl, by decide, ws_C, (Or.inl w_64)⟩
theorem g_C_18 : gFg "SelfArranger$Conditions" 18 2 2 := ⟨"SelfArranger$Conditions", T_C, 3, rfl, by decide, ws_C, (Or.inl w_66)⟩
theorem g_R_15 : gFg "SelfArranger$RowList" 15 9 1 := ⟨"SelfArranger$RowList", T_R, 2, rfl, by decide, ws_R, (Or.inl w_88)⟩
theorem g_R_9 : gFg "SelfArranger$RowList" 9 9 0 := ⟨"SelfArranger$RowList", T_R, 2, rfl, by decide, ws_R, (Or.inl w_86)⟩
theorem p_R_15 : gFp "SelfArranger$RowList" 15 9 1 .int false := ⟨"SelfArranger$RowList", T_R, 2, ty_R, rfl, by decide, ws_R, (Or.inl w_88), tyok_R, nm_R, rfl, by decide +kernel, fun h => by cases h⟩
theorem c_S_103 : gCV "SelfArranger$Stretch" 103 m_T_indexHeight 0 := ⟨(Or.inl ⟨rfl, w_357⟩), (Or.inr ⟨"SelfArranger", w_354⟩), w_356, wp_12, ⟨by decide, by decide, by decide +kernel, by decide⟩⟩
theorem c_S_106 : gCV "SelfArranger$Stretch" 106 m_S_leaves 0 := ⟨(Or.inl ⟨rfl, w_366⟩), (Or.inl w_363), w_365, wp_14, ⟨by decide, by decide, by decide +kernel, by decide⟩⟩
theorem g_S_52 : gFg "SelfArranger$Stretch" 52 9 1 := ⟨"SelfArranger$RowList", T_R, 2, rfl, by decide, ws_R, (Or.inr ⟨"SelfArranger", w_89⟩)⟩
theorem c_T_40 : gCV "SelfArranger$Table" 40 m_T_indexLeaves 0 := ⟨(Or.inl ⟨rfl, w_361⟩), (Or.inl w_358), w_360, wp_13, ⟨by decide, by decide, by decide +kernel, by decide⟩⟩
theorem g_T_27 : gFg "SelfArranger$Table" 27 1 3 := ⟨"SelfArranger$Table", T_T, 4, rfl, by decide, ws_T, (Or.inl w_44)⟩
theorem g_B_9 : gFg "SelfArranger$Builder" 9 8 1 := ⟨"SelfArranger$Builder", T_B, 5, rfl, by decide, ws_B, (Or.inl w_232)⟩
theorem c_W_43 : gCV "SelfArranger$WayCosts" 43 m_W_at 1 := ⟨(Or.inl ⟨rfl, w_378⟩), (Or.inl w_375), w_377, wp_17, ⟨by decide, by decide, by decide +kernel, by decide⟩⟩
theorem g_W_21 : gFg "SelfArranger$WayCosts" 21 4 1 := ⟨"SelfArranger$WayCosts", T_W, 2, rfl, by decide, ws_W, (Or.inl w_123)⟩
theorem g_A_44 : gFg "SelfArranger" 44 0 4 := ⟨"SelfArranger", T_A, 14, rfl, by decide, ws_A, (Or.inl w_254)⟩
theorem c_A_295 : gCV "SelfArranger" 295 m_P_countAnew 0 := ⟨(Or.inl ⟨rfl, w_387⟩), (Or.inr ⟨"SelfArranger", w_384⟩), w_386, wp_19, ⟨by decide, by decide, by decide +kernel, by decide⟩⟩
theorem c_A_298 : gCV "SelfArranger" 298 m_A_touchHeap 0 := ⟨(Or.inl ⟨rfl, w_391⟩), (Or.inl w_388), w_390, wp_20, ⟨by decide, by decide, by decide +kernel, by decide⟩⟩
theorem c_A_301 : gCV "SelfArranger" 301 m_A_touchIndex 1 := ⟨(Or.inl ⟨rfl, w_412⟩), (Or.inl w_409), w_411, wp_25, ⟨by decide, by decide, by decide +kernel, by decide⟩⟩
theorem p_P_28 : gFp "SelfArranger$Pool" 28 5 3 .int false := ⟨"SelfArranger$Pool", T_P, 5, ty_P, rfl, by decide, ws_P, (Or.inl w_144), tyok_P, nm_P, rfl, by decide +kernel, fun h => by cases h⟩
theorem p_P_32 : gFp "SelfArranger$Pool" 32 5 4 .int false := ⟨"SelfArranger$Pool", T_P, 5, ty_P, rfl, by decide, ws_P, (Or.inl w_146), tyok_P, nm_P, rfl, by decide +kernel, fun h => by cases h⟩
theorem c_A_304 : gCV "SelfArranger" 304 m_T_heapPages 0 := ⟨(Or.inl ⟨rfl, w_308⟩), (Or.inr ⟨"SelfArranger", w_392⟩), w_307, wp_2, ⟨by decide, by decide, by decide +kernel, by decide⟩⟩
theorem c_A_307 : gCV "SelfArranger" 307 m_P_touch 3 := ⟨(Or.inl ⟨rfl, w_396⟩), (Or.inr ⟨"SelfArranger", w_393⟩), w_395, wp_21, ⟨by decide, by decide, by decide +kernel, by decide⟩⟩
theorem g_P_28 : gFg "SelfArranger$Pool" 28 5 3 := ⟨"SelfArranger$Pool", T_P, 5, rfl, by decide, ws_P, (Or.inl w_144)⟩
theorem c_P_35 : gCV "SelfArranger$Pool" 35 m_P_frameOf 1 := ⟨(Or.inl ⟨rfl, w_400⟩), (Or.inl w_397), w_399, wp_22, ⟨by decide, by decide, by decide +kernel, by decide⟩⟩
theorem g_P_32 : gFg "SelfArranger$Pool" 32 5 4 := ⟨"SelfArranger$Pool", T_P, 5, rfl, by decide, ws_P, (Or.inl w_146)⟩
theorem c_P_39 : gCV "SelfArranger$Pool" 39 m_P_freeFrame 0 := ⟨(Or.inl ⟨rfl, w_404⟩), (Or.inl w_401), w_403, wp_23, ⟨by decide, by decide, by decide +kernel, by decide⟩⟩
theorem g_P_24 : gFg "SelfArranger$Pool" 24 5 1 := ⟨"SelfArranger$Pool", T_P, 5, rfl, by decide, ws_P, (Or.inl w_142)⟩
theorem g_P_43 : gFg "SelfArranger$Pool" 43 5 2 := ⟨"SelfArranger$Pool", T_P, 5, rfl, by decide, ws_P, (Or.inl w_143)⟩
theorem c_P_46 : gCV "SelfArranger$Pool" 46 m_P_moveHand 0 := ⟨(Or.inl ⟨rfl, w_408⟩), (Or.inl w_405), w_407, wp_24, ⟨by decide, by decide, by decide +kernel, by decide⟩⟩
theorem p_P_43 : gFp "SelfArranger$Pool" 43 5 2 .int false := ⟨"SelfArranger$Pool", T_P, 5, ty_P, rfl, by decide, ws_P, (Or.inl w_143), tyok_P, nm_P, rfl, by decide +kernel, fun h => by cases h⟩
theorem c_A_310 : gCV "SelfArranger" 310 m_S_lay 2 := ⟨(Or.inl ⟨rfl, w_321⟩), (Or.inr ⟨"SelfArranger", w_413⟩), w_320, wp_4, ⟨by decide, by decide, by decide +kernel, by decide⟩⟩
theorem c_A_314 : gCV "SelfArranger" 314 m_S_firstLeaf 0 := ⟨(Or.inl ⟨rfl, w_417⟩), (Or.inr ⟨"SelfArranger", w_414⟩), w_416, wp_26, ⟨by decide, by decide, by decide +kernel, by decide⟩⟩
theorem c_A_188 : gCV "SelfArranger" 188 m_T_indexHeight 0 := ⟨(Or.inl ⟨rfl, w_357⟩), (Or.inr ⟨"SelfArranger", w_420⟩), w_356, wp_12, ⟨by decide, by decide, by decide +kernel, by decide⟩⟩
theorem c_A_317 : gCS "SelfArranger" 317 m_A_nodeAbove 2 := ⟨(Or.inl ⟨rfl, w_423⟩), (Or.inl w_421), w_422, w_1, ⟨by decide, by decide, by decide +kernel, by decide⟩⟩
theorem c_A_320 : gCV "SelfArranger" 320 m_S_leaves 0 := ⟨(Or.inl ⟨rfl, w_366⟩), (Or.inr ⟨"SelfArranger", w_424⟩), w_365, wp_14, ⟨by decide, by decide, by decide +kernel, by decide⟩⟩
theorem c_A_323 : gCV "SelfArranger" 323 m_S_sort 0 := ⟨(Or.inl ⟨rfl, w_428⟩), (Or.inr ⟨"SelfArranger", w_425⟩), w_427, wp_27, ⟨by decide, by decide, by decide +kernel, by decide⟩⟩
theorem g_A_326 : gFg "SelfArranger" 326 3 1 := ⟨"SelfArranger$Stretch", T_S, 6, rfl, by decide, ws_S, (Or.inr ⟨"SelfArranger", w_98⟩)⟩
theorem g_A_160 : gFg "SelfArranger" 160 9 0 := ⟨"SelfArranger$RowList", T_R, 2, rfl, by decide, ws_R, (Or.inr ⟨"SelfArranger", w_87⟩)⟩
theorem c_S_94 : gCV "SelfArranger$Stretch" 94 m_T_indexLeaves 0 := ⟨(Or.inl ⟨rfl, w_361⟩), (Or.inr ⟨"SelfArranger", w_418⟩), w_360, wp_13, ⟨by decide, by decide, by decide +kernel, by decide⟩⟩
theorem c_S_90 : gCV "SelfArranger$Stretch" 90 m_R_sort 3 := ⟨(Or.inl ⟨rfl, w_432⟩), (Or.inr ⟨"SelfArranger", w_429⟩), w_431, wp_28, ⟨by decide, by decide, by decide +kernel, by decide⟩⟩
theorem c_R_19 : gCV "SelfArranger$RowList" 19 m_T_isAfter 4 := ⟨(Or.inl ⟨rfl, w_436⟩), (Or.inr ⟨"SelfArranger", w_433⟩), w_435, wp_29, ⟨by decide, by decide, by decide +kernel, by decide⟩⟩
theorem c_T_51 : gCV "SelfArranger$Table" 51 m_T_compare 3 := ⟨(Or.inl ⟨rfl, w_440⟩), (Or.inl w_437), w_439, wp_30, ⟨by decide, by decide, by decide +kernel, by decide⟩⟩
theorem c_T_55 : gCV "SelfArranger$Table" 55 m_T_at 2 := ⟨(Or.inl ⟨rfl, w_337⟩), (Or.inl w_441), w_336, wp_7, ⟨by decide, by decide, by decide +kernel, by decide⟩⟩
theorem c_T_58 : gCS "SelfArranger$Table" 58 m_J_compare 2 := ⟨(Or.inl ⟨rfl, w_444⟩), (Or.inl w_442), w_443, w_20, ⟨by decide, by decide, by decide +kernel, by decide⟩⟩
theorem p_A_152 : gFp "SelfArranger" 152 9 1 .int false := ⟨"SelfArranger$RowList", T_R, 2, ty_R, rfl, by decide, ws_R, (Or.inr ⟨"SelfArranger", w_90⟩), tyok_R, nm_R, rfl, by decide +kernel, fun h => by cases h⟩
theorem g_A_274 : gFg "SelfArranger" 274 1 2 := ⟨"SelfArranger$Table", T_T, 4, rfl, by decide, ws_T, (Or.inr ⟨"SelfArranger", w_43⟩)⟩
theorem g_A_277 : gFg "SelfArranger" 277 1 1 := ⟨"SelfArranger$Table", T_T, 4, rfl, by decide, ws_T, (Or.inr ⟨"SelfArranger", w_39⟩)⟩
theorem c_A_329 : gCV "SelfArranger" 329 m_C_fitRow 2 := ⟨(Or.inl ⟨rfl, w_452⟩), (Or.inr ⟨"SelfArranger", w_449⟩), w_451, wp_32, ⟨by decide, by decide, by decide +kernel, by decide⟩⟩
theorem c_A_333 : gCV "SelfArranger" 333 m_R_append 1 := ⟨(Or.inl ⟨rfl, w_349⟩), (Or.inr ⟨"SelfArranger", w_455⟩), w_348, wp_10, ⟨by decide, by decide, by decide +kernel, by decide⟩⟩
theorem g_A_78 : gFg "SelfArranger" 78 0 9 := ⟨"SelfArranger", T_A, 14, rfl, by decide, ws_A, (Or.inl w_259)⟩
theorem c_A_336 : gCV "SelfArranger" 336 m_R_sort 3 := ⟨(Or.inl ⟨rfl, w_432⟩), (Or.inr ⟨"SelfArranger", w_456⟩), w_431, wp_28, ⟨by decide, by decide, by decide +kernel, by decide⟩⟩
theorem g_A_82 : gFg "SelfArranger" 82 0 10 := ⟨"SelfArranger", T_A, 14, rfl, by decide, ws_A, (Or.inl w_260)⟩
theorem c_C_25 : gCV "SelfArranger$Conditions" 25 m_T_at 2 := ⟨(Or.inl ⟨rfl, w_337⟩), (Or.inr ⟨"SelfArranger", w_453⟩), w_336, wp_7, ⟨by decide, by decide, by decide +kernel, by decide⟩⟩
theorem c_C_31 : gCV "SelfArranger$Conditions" 31 m_C_fit 2 := ⟨(Or.inl ⟨rfl, w_345⟩), (Or.inl w_454), w_344, wp_9, ⟨by decide, by decide, by decide +kernel, by decide⟩⟩
theorem c_D_16 : gCV "SelfArranger$Ledger" 16 m_C_kindsCode 0 := ⟨(Or.inl ⟨rfl, w_465⟩), (Or.inr ⟨"SelfArranger", w_462⟩), w_464, wp_34, ⟨by decide, by decide, by decide +kernel, by decide⟩⟩
theorem c_D_22 : gCV "SelfArranger$Ledger" 22 m_D_placeOf 1 := ⟨(Or.inl ⟨rfl, w_469⟩), (Or.inl w_466), w_468, wp_35, ⟨by decide, by decide, by decide +kernel, by decide⟩⟩
theorem g_D_26 : gFg "SelfArranger$Ledger" 26 6 1 := ⟨"SelfArranger$Ledger", T_D, 3, rfl, by decide, ws_D, (Or.inl w_197)⟩
theorem p_D_26 : gFp "SelfArranger$Ledger" 26 6 1 .int false := ⟨"SelfArranger$Ledger", T_D, 3, ty_D, rfl, by decide, ws_D, (Or.inl w_197), tyok_D, nm_D, rfl, by decide +kernel, fun h => by cases h⟩
theorem g_D_30 : gFg "SelfArranger$Ledger" 30 10 2 := ⟨"SelfArranger$Shape", T_H, 3, rfl, by decide, ws_H, (Or.inr ⟨"SelfArranger", w_183⟩)⟩
theorem p_D_30 : gFp "SelfArranger$Ledger" 30 10 2 .int false := ⟨"SelfArranger$Shape", T_H, 3, ty_H, rfl, by decide, ws_H, (Or.inr ⟨"SelfArranger", w_183⟩), tyok_H, nm_H, rfl, by decide +kernel, fun h => by cases h⟩
theorem g_D_33 : gFg "SelfArranger$Ledger" 33 10 0 := ⟨"SelfArranger$Shape", T_H, 3, rfl, by decide, ws_H, (Or.inr ⟨"SelfArranger", w_178⟩)⟩
theorem c_D_37 : gCV "SelfArranger$Ledger" 37 m_C_copy 1 := ⟨(Or.inl ⟨rfl, w_473⟩), (Or.inr ⟨"SelfArranger", w_470⟩), w_472, wp_36, ⟨by decide, by decide, by decide +kernel, by decide⟩⟩
theorem c_C_21 : gCV "SelfArranger$Conditions" 21 m_C_put 4 := ⟨(Or.inl ⟨rfl, w_477⟩), (Or.inl w_474), w_476, wp_37, ⟨by decide, by decide, by decide +kernel, by decide⟩⟩
theorem g_A_206 : gFg "SelfArranger" 206 6 1 := ⟨"SelfArranger$Ledger", T_D, 3, rfl, by decide, ws_D, (Or.inr ⟨"SelfArranger", w_198⟩)⟩
theorem g_A_233 : gFg "SelfArranger" 233 6 2 := ⟨"SelfArranger$Ledger", T_D, 3, rfl, by decide, ws_D, (Or.inr ⟨"SelfArranger", w_201⟩)⟩
theorem c_A_236 : gCV "SelfArranger" 236 m_D_fade 0 := ⟨(Or.inl ⟨rfl, w_493⟩), (Or.inr ⟨"SelfArranger", w_490⟩), w_492, wp_38, ⟨by decide, by decide, by decide +kernel, by decide⟩⟩
theorem g_D_41 : gFg "SelfArranger$Ledger" 41 6 2 := ⟨"SelfArranger$Ledger", T_D, 3, rfl, by decide, ws_D, (Or.inl w_200)⟩
theorem c_D_44 : gCS "SelfArranger$Ledger" 44 m_D_threeQuarters 1 := ⟨(Or.inl ⟨rfl, w_496⟩), (Or.inl w_494), w_495, w_9, ⟨by decide, by decide, by decide +kernel, by decide⟩⟩
theorem p_D_41 : gFp "SelfArranger$Ledger" 41 6 2 .int false := ⟨"SelfArranger$Ledger", T_D, 3, ty_D, rfl, by decide, ws_D, (Or.inl w_200), tyok_D, nm_D, rfl, by decide +kernel, fun h => by cases h⟩
theorem g_A_60 : gFg "SelfArranger" 60 0 6 := ⟨"SelfArranger", T_A, 14, rfl, by decide, ws_A, (Or.inl w_256)⟩
theorem c_A_241 : gCV "SelfArranger" 241 m_V_measure 0 := ⟨(Or.inl ⟨rfl, w_504⟩), (Or.inr ⟨"SelfArranger", w_501⟩), w_503, wp_39, ⟨by decide, by decide, by decide +kernel, by decide⟩⟩
theorem g_A_85 : gFg "SelfArranger" 85 0 11 := ⟨"SelfArranger", T_A, 14, rfl, by decide, ws_A, (Or.inl w_261)⟩
theorem c_A_243 : gCV "SelfArranger" 243 m_V_bestSet 1 := ⟨(Or.inl ⟨rfl, w_509⟩), (Or.inr ⟨"SelfArranger", w_506⟩), w_508, wp_40, ⟨by decide, by decide, by decide +kernel, by decide⟩⟩
theorem g_V_19 : gFg "SelfArranger$Adviser" 19 7 2 := ⟨"SelfArranger$Adviser", T_V, 3, rfl, by decide, ws_V, (Or.inl w_217)⟩
theorem g_V_23 : gFg "SelfArranger$Adviser" 23 6 1 := ⟨"SelfArranger$Ledger", T_D, 3, rfl, by decide, ws_D, (Or.inr ⟨"SelfArranger", w_196⟩)⟩
theorem g_V_29 : gFg "SelfArranger$Adviser" 29 6 0 := ⟨"SelfArranger$Ledger", T_D, 3, rfl, by decide, ws_D, (Or.inr ⟨"SelfArranger", w_194⟩)⟩
theorem g_V_33 : gFg "SelfArranger$Adviser" 33 10 1 := ⟨"SelfArranger$Shape", T_H, 3, rfl, by decide, ws_H, (Or.inr ⟨"SelfArranger", w_181⟩)⟩
theorem g_V_9 : gFg "SelfArranger$Adviser" 9 7 0 := ⟨"SelfArranger$Adviser", T_V, 3, rfl, by decide, ws_V, (Or.inl w_215)⟩
theorem g_V_15 : gFg "SelfArranger$Adviser" 15 7 1 := ⟨"SelfArranger$Adviser", T_V, 3, rfl, by decide, ws_V, (Or.inl w_216)⟩
theorem g_V_39 : gFg "SelfArranger$Adviser" 39 10 0 := ⟨"SelfArranger$Shape", T_H, 3, rfl, by decide, ws_H, (Or.inr ⟨"SelfArranger", w_177⟩)⟩
theorem c_V_43 : gCV "SelfArranger$Adviser" 43 m_W_measure 3 := ⟨(Or.inl ⟨rfl, w_304⟩), (Or.inr ⟨"SelfArranger", w_505⟩), w_303, wp_1, ⟨by decide, by decide, by decide +kernel, by decide⟩⟩
theorem c_V_70 : gCV "SelfArranger$Adviser" 70 m_T_indexSize 0 := ⟨(Or.inl ⟨rfl, w_513⟩), (Or.inr ⟨"SelfArranger", w_510⟩), w_512, wp_41, ⟨by decide, by decide, by decide +kernel, by decide⟩⟩
theorem c_V_73 : gCV "SelfArranger$Adviser" 73 m_V_setCost 1 := ⟨(Or.inl ⟨rfl, w_518⟩), (Or.inl w_515), w_517, wp_42, ⟨by decide, by decide, by decide +kernel, by decide⟩⟩
theorem c_V_65 : gCS "SelfArranger$Adviser" 65 m_J_bitCount 1 := ⟨(Or.inl ⟨rfl, w_527⟩), (Or.inl w_525), w_526, w_20, ⟨by decide, by decide, by decide +kernel, by decide⟩⟩
theorem c_T_44 : gCV "SelfArranger$Table" 44 m_T_indexHeight 0 := ⟨(Or.inl ⟨rfl, w_357⟩), (Or.inl w_514), w_356, wp_12, ⟨by decide, by decide, by decide +kernel, by decide⟩⟩
theorem g_V_49 : gFg "SelfArranger$Adviser" 49 10 2 := ⟨"SelfArranger$Shape", T_H, 3, rfl, by decide, ws_H, (Or.inr ⟨"SelfArranger", w_184⟩)⟩
theorem c_V_52 : gCV "SelfArranger$Adviser" 52 m_W_least 1 := ⟨(Or.inl ⟨rfl, w_522⟩), (Or.inr ⟨"SelfArranger", w_519⟩), w_521, wp_43, ⟨by decide, by decide, by decide +kernel, by decide⟩⟩
theorem g_V_56 : gFg "SelfArranger$Adviser" 56 6 2 := ⟨"SelfArranger$Ledger", T_D, 3, rfl, by decide, ws_D, (Or.inr ⟨"SelfArranger", w_199⟩)⟩
theorem c_V_59 : gCV "SelfArranger$Adviser" 59 m_T_indexHeight 0 := ⟨(Or.inl ⟨rfl, w_357⟩), (Or.inr ⟨"SelfArranger", w_524⟩), w_356, wp_12, ⟨by decide, by decide, by decide +kernel, by decide⟩⟩
theorem c_W_47 : gCV "SelfArranger$WayCosts" 47 m_W_cheapest 1 := ⟨(Or.inl ⟨rfl, w_374⟩), (Or.inl w_523), w_373, wp_16, ⟨by decide, by decide, by decide +kernel, by decide⟩⟩
theorem c_L_7 : gCV "SelfArrangerLaw" 7 m_A_insert 3 := ⟨(Or.inl ⟨rfl, w_542⟩), (Or.inl w_539), w_540, w_541, ⟨by decide, by decide, by decide +kernel, by decide⟩⟩
theorem c_A_91 : gCS "SelfArranger" 91 m_A_requireValue 1 := ⟨(Or.inl ⟨rfl, w_545⟩), (Or.inl w_543), w_544, w_1, ⟨by decide, by decide, by decide +kernel, by decide⟩⟩
theorem c_A_94 : gCV "SelfArranger" 94 m_T_isFull 0 := ⟨(Or.inl ⟨rfl, w_618⟩), (Or.inr ⟨"SelfArranger", w_615⟩), w_617, wp_45, ⟨by decide, by decide, by decide +kernel, by decide⟩⟩
theorem c_A_105 : gCV "SelfArranger" 105 m_T_add 3 := ⟨(Or.inl ⟨rfl, w_638⟩), (Or.inr ⟨"SelfArranger", w_635⟩), w_637, wp_46, ⟨by decide, by decide, by decide +kernel, by decide⟩⟩
theorem c_A_109 : gCV "SelfArranger" 109 m_A_noteChange 1 := ⟨(Or.inl ⟨rfl, w_646⟩), (Or.inl w_643), w_645, wp_48, ⟨by decide, by decide, by decide +kernel, by decide⟩⟩
theorem p_T_19 : gFp "SelfArranger$Table" 19 1 2 .int false := ⟨"SelfArranger$Table", T_T, 4, ty_T, rfl, by decide, ws_T, (Or.inl w_40), tyok_T, nm_T, rfl, by decide +kernel, fun h => by cases h⟩
theorem c_T_23 : gCV "SelfArranger$Table" 23 m_T_put 3 := ⟨(Or.inl ⟨rfl, w_642⟩), (Or.inl w_639), w_641, wp_47, ⟨by decide, by decide, by decide +kernel, by decide⟩⟩
theorem g_T_15 : gFg "SelfArranger$Table" 15 1 1 := ⟨"SelfArranger$Table", T_T, 4, rfl, by decide, ws_T, (Or.inl w_37)⟩
theorem p_T_27 : gFp "SelfArranger$Table" 27 1 3 .int false := ⟨"SelfArranger$Table", T_T, 4, ty_T, rfl, by decide, ws_T, (Or.inl w_44), tyok_T, nm_T, rfl, by decide +kernel, fun h => by cases h⟩
theorem c_A_289 : gCV "SelfArranger" 289 m_D_noteChange 0 := ⟨(Or.inl ⟨rfl, w_650⟩), (Or.inr ⟨"SelfArranger", w_647⟩), w_649, wp_49, ⟨by decide, by decide, by decide +kernel, by decide⟩⟩
theorem c_A_291 : gCV "SelfArranger" 291 m_B_noteChange 1 := ⟨(Or.inl ⟨rfl, w_654⟩), (Or.inr ⟨"SelfArranger", w_651⟩), w_653, wp_50, ⟨by decide, by decide, by decide +kernel, by decide⟩⟩
theorem c_B_32 : gCV "SelfArranger$Builder" 32 m_B_isBusy 0 := ⟨(Or.inl ⟨rfl, w_658⟩), (Or.inl w_655), w_657, wp_51, ⟨by decide, by decide, by decide +kernel, by decide⟩⟩
theorem g_B_23 : gFg "SelfArranger$Builder" 23 8 3 := ⟨"SelfArranger$Builder", T_B, 5, rfl, by decide, ws_B, (Or.inl w_235)⟩
theorem g_B_26 : gFg "SelfArranger$Builder" 26 8 4 := ⟨"SelfArranger$Builder", T_B, 5, rfl, by decide, ws_B, (Or.inl w_236)⟩
theorem p_B_26 : gFp "SelfArranger$Builder" 26 8 4 .int false := ⟨"SelfArranger$Builder", T_B, 5, ty_B, rfl, by decide, ws_B, (Or.inl w_236), tyok_B, nm_B, rfl, by decide +kernel, fun h => by cases h⟩
theorem g_B_19 : gFg "SelfArranger$Builder" 19 8 2 := ⟨"SelfArranger$Builder", T_B, 5, rfl, by decide, ws_B, (Or.inl w_234)⟩
theorem c_L_17 : gCV "SelfArrangerLaw" 17 m_A_delete 1 := ⟨(Or.inl ⟨rfl, w_666⟩), (Or.inl w_663), w_664, w_665, ⟨by decide, by decide, by decide +kernel, by decide⟩⟩
theorem c_A_112 : gCV "SelfArranger" 112 m_A_requireRow 1 := ⟨(Or.inl ⟨rfl, w_670⟩), (Or.inl w_667), w_669, wp_52, ⟨by decide, by decide, by decide +kernel, by decide⟩⟩
theorem c_A_115 : gCV "SelfArranger" 115 m_T_remove 1 := ⟨(Or.inl ⟨rfl, w_690⟩), (Or.inr ⟨"SelfArranger", w_687⟩), w_689, wp_53, ⟨by decide, by decide, by decide +kernel, by decide⟩⟩
theorem c_L_23 : gCV "SelfArrangerLaw" 23 m_A_change 3 := ⟨(Or.inl ⟨rfl, w_697⟩), (Or.inl w_694), w_695, w_696, ⟨by decide, by decide, by decide +kernel, by decide⟩⟩
theorem c_A_118 : gCS "SelfArranger" 118 m_A_requireColumn 1 := ⟨(Or.inl ⟨rfl, w_700⟩), (Or.inl w_698), w_699, w_1, ⟨by decide, by decide, by decide +kernel, by decide⟩⟩
theorem c_A_121 : gCV "SelfArranger" 121 m_T_put 3 := ⟨(Or.inl ⟨rfl, w_642⟩), (Or.inr ⟨"SelfArranger", w_702⟩), w_641, wp_47, ⟨by decide, by decide, by decide +kernel, by decide⟩⟩
theorem c_L_27 : gCV "SelfArrangerLaw" 27 m_A_value 2 := ⟨(Or.inl ⟨rfl, w_709⟩), (Or.inl w_706), w_707, w_708, ⟨by decide, by decide, by decide +kernel, by decide⟩⟩
theorem c_A_125 : gCV "SelfArranger" 125 m_T_at 2 := ⟨(Or.inl ⟨rfl, w_337⟩), (Or.inr ⟨"SelfArranger", w_710⟩), w_336, wp_7, ⟨by decide, by decide, by decide +kernel, by decide⟩⟩
theorem c_L_31 : gCV "SelfArrangerLaw" 31 m_A_where 4 := ⟨(Or.inl ⟨rfl, w_717⟩), (Or.inl w_714), w_715, w_716, ⟨by decide, by decide, by decide +kernel, by decide⟩⟩
theorem c_A_134 : gCV "SelfArranger" 134 m_C_put 4 := ⟨(Or.inl ⟨rfl, w_477⟩), (Or.inr ⟨"SelfArranger", w_719⟩), w_476, wp_37, ⟨by decide, by decide, by decide +kernel, by decide⟩⟩
theorem c_L_35 : gCV "SelfArrangerLaw" 35 m_A_order 2 := ⟨(Or.inl ⟨rfl, w_726⟩), (Or.inl w_723), w_724, w_725, ⟨by decide, by decide, by decide +kernel, by decide⟩⟩
theorem c_L_39 : gCV "SelfArrangerLaw" 39 m_A_answer 1 := ⟨(Or.inl ⟨rfl, w_734⟩), (Or.inl w_731), w_732, w_733, ⟨by decide, by decide, by decide +kernel, by decide⟩⟩
theorem c_L_43 : gCV "SelfArrangerLaw" 43 m_A_last 1 := ⟨(Or.inl ⟨rfl, w_742⟩), (Or.inl w_739), w_740, w_741, ⟨by decide, by decide, by decide +kernel, by decide⟩⟩
theorem g_A_164 : gFg "SelfArranger" 164 0 13 := ⟨"SelfArranger", T_A, 14, rfl, by decide, ws_A, (Or.inl w_263)⟩
theorem g_A_167 : gFg "SelfArranger" 167 5 3 := ⟨"SelfArranger$Pool", T_P, 5, rfl, by decide, ws_P, (Or.inr ⟨"SelfArranger", w_145⟩)⟩
theorem g_A_170 : gFg "SelfArranger" 170 5 4 := ⟨"SelfArranger$Pool", T_P, 5, rfl, by decide, ws_P, (Or.inr ⟨"SelfArranger", w_147⟩)⟩
theorem c_L_46 : gCV "SelfArrangerLaw" 46 m_A_cost 1 := ⟨(Or.inl ⟨rfl, w_750⟩), (Or.inl w_747), w_748, w_749, ⟨by decide, by decide, by decide +kernel, by decide⟩⟩
theorem c_A_175 : gCS "SelfArranger" 175 m_A_requireIndex 1 := ⟨(Or.inl ⟨rfl, w_753⟩), (Or.inl w_751), w_752, w_1, ⟨by decide, by decide, by decide +kernel, by decide⟩⟩
theorem c_L_49 : gCV "SelfArrangerLaw" 49 m_A_index 2 := ⟨(Or.inl ⟨rfl, w_761⟩), (Or.inl w_758), w_759, w_760, ⟨by decide, by decide, by decide +kernel, by decide⟩⟩
theorem g_A_185 : gFg "SelfArranger" 185 8 1 := ⟨"SelfArranger$Builder", T_B, 5, rfl, by decide, ws_B, (Or.inr ⟨"SelfArranger", w_233⟩)⟩
theorem c_A_192 : gCV "SelfArranger" 192 m_T_indexSize 0 := ⟨(Or.inl ⟨rfl, w_513⟩), (Or.inr ⟨"SelfArranger", w_762⟩), w_512, wp_41, ⟨by decide, by decide, by decide +kernel, by decide⟩⟩
theorem c_A_201 : gCV "SelfArranger" 201 m_T_firstEntry 2 := ⟨(Or.inl ⟨rfl, w_768⟩), (Or.inr ⟨"SelfArranger", w_765⟩), w_767, wp_54, ⟨by decide, by decide, by decide +kernel, by decide⟩⟩
theorem c_T_47 : gCV "SelfArranger$Table" 47 m_T_isAfter 4 := ⟨(Or.inl ⟨rfl, w_436⟩), (Or.inl w_769), w_435, wp_29, ⟨by decide, by decide, by decide +kernel, by decide⟩⟩
theorem c_L_52 : gCV "SelfArrangerLaw" 52 m_A_shape 2 := ⟨(Or.inl ⟨rfl, w_777⟩), (Or.inl w_774), w_775, w_776, ⟨by decide, by decide, by decide +kernel, by decide⟩⟩
theorem g_A_209 : gFg "SelfArranger" 209 6 0 := ⟨"SelfArranger$Ledger", T_D, 3, rfl, by decide, ws_D, (Or.inr ⟨"SelfArranger", w_195⟩)⟩
theorem g_A_213 : gFg "SelfArranger" 213 10 2 := ⟨"SelfArranger$Shape", T_H, 3, rfl, by decide, ws_H, (Or.inr ⟨"SelfArranger", w_185⟩)⟩
theorem g_A_218 : gFg "SelfArranger" 218 10 0 := ⟨"SelfArranger$Shape", T_H, 3, rfl, by decide, ws_H, (Or.inr ⟨"SelfArranger", w_179⟩)⟩
theorem c_A_221 : gCV "SelfArranger" 221 m_C_kindsCode 0 := ⟨(Or.inl ⟨rfl, w_465⟩), (Or.inr ⟨"SelfArranger", w_779⟩), w_464, wp_34, ⟨by decide, by decide, by decide +kernel, by decide⟩⟩
theorem g_A_224 : gFg "SelfArranger" 224 10 1 := ⟨"SelfArranger$Shape", T_H, 3, rfl, by decide, ws_H, (Or.inr ⟨"SelfArranger", w_182⟩)⟩
theorem c_A_228 : gCV "SelfArranger" 228 m_W_least 1 := ⟨(Or.inl ⟨rfl, w_522⟩), (Or.inr ⟨"SelfArranger", w_780⟩), w_521, wp_43, ⟨by decide, by decide, by decide +kernel, by decide⟩⟩
theorem c_L_55 : gCV "SelfArrangerLaw" 55 m_A_budget 1 := ⟨(Or.inl ⟨rfl, w_788⟩), (Or.inl w_785), w_786, w_787, ⟨by decide, by decide, by decide +kernel, by decide⟩⟩
theorem c_L_58 : gCV "SelfArrangerLaw" 58 m_A_costOf 1 := ⟨(Or.inl ⟨rfl, w_796⟩), (Or.inl w_793), w_794, w_795, ⟨by decide, by decide, by decide +kernel, by decide⟩⟩
theorem c_A_248 : gCV "SelfArranger" 248 m_V_setCost 1 := ⟨(Or.inl ⟨rfl, w_518⟩), (Or.inr ⟨"SelfArranger", w_798⟩), w_517, wp_42, ⟨by decide, by decide, by decide +kernel, by decide⟩⟩
theorem c_L_62 : gCV "SelfArrangerLaw" 62 m_A_build 1 := ⟨(Or.inl ⟨rfl, w_806⟩), (Or.inl w_803), w_804, w_805, ⟨by decide, by decide, by decide +kernel, by decide⟩⟩
theorem c_A_252 : gCV "SelfArranger" 252 m_B_isBusy 0 := ⟨(Or.inl ⟨rfl, w_658⟩), (Or.inr ⟨"SelfArranger", w_807⟩), w_657, wp_51, ⟨by decide, by decide, by decide +kernel, by decide⟩⟩
theorem c_A_260 : gCV "SelfArranger" 260 m_B_begin 1 := ⟨(Or.inl ⟨rfl, w_827⟩), (Or.inr ⟨"SelfArranger", w_824⟩), w_826, wp_55, ⟨by decide, by decide, by decide +kernel, by decide⟩⟩
theorem p_B_23 : gFp "SelfArranger$Builder" 23 8 3 .int false := ⟨"SelfArranger$Builder", T_B, 5, ty_B, rfl, by decide, ws_B, (Or.inl w_235), tyok_B, nm_B, rfl, by decide +kernel, fun h => by cases h⟩
theorem c_B_29 : gCV "SelfArranger$Builder" 29 m_B_finishIfDone 0 := ⟨(Or.inl ⟨rfl, w_831⟩), (Or.inl w_828), w_830, wp_56, ⟨by decide, by decide, by decide +kernel, by decide⟩⟩
theorem c_B_47 : gCV "SelfArranger$Builder" 47 m_B_left 0 := ⟨(Or.inl ⟨rfl, w_835⟩), (Or.inl w_832), w_834, wp_57, ⟨by decide, by decide, by decide +kernel, by decide⟩⟩
theorem g_B_15 : gFg "SelfArranger$Builder" 15 8 0 := ⟨"SelfArranger$Builder", T_B, 5, rfl, by decide, ws_B, (Or.inl w_231)⟩
theorem g_B_36 : gFg "SelfArranger$Builder" 36 1 2 := ⟨"SelfArranger$Table", T_T, 4, rfl, by decide, ws_T, (Or.inr ⟨"SelfArranger", w_42⟩)⟩
theorem c_L_67 : gCV "SelfArrangerLaw" 67 m_A_work 1 := ⟨(Or.inl ⟨rfl, w_842⟩), (Or.inl w_839), w_840, w_841, ⟨by decide, by decide, by decide +kernel, by decide⟩⟩
theorem c_A_267 : gCV "SelfArranger" 267 m_B_handle 1 := ⟨(Or.inl ⟨rfl, w_848⟩), (Or.inr ⟨"SelfArranger", w_845⟩), w_847, wp_58, ⟨by decide, by decide, by decide +kernel, by decide⟩⟩
theorem c_L_70 : gCV "SelfArrangerLaw" 70 m_A_drop 1 := ⟨(Or.inl ⟨rfl, w_856⟩), (Or.inl w_853), w_854, w_855, ⟨by decide, by decide, by decide +kernel, by decide⟩⟩
theorem c_A_270 : gCV "SelfArranger" 270 m_B_discard 1 := ⟨(Or.inl ⟨rfl, w_860⟩), (Or.inr ⟨"SelfArranger", w_857⟩), w_859, wp_59, ⟨by decide, by decide, by decide +kernel, by decide⟩⟩
theorem p_M_7 : gFp "SelfArrangerModel" 7 11 2 (.array .boolean) true := ⟨"SelfArrangerModel", T_M, 34, ty_M, rfl, by decide, ws_M, (Or.inl w_869), tyok_M, nm_M, rfl, by decide +kernel, fun _ => ⟨rfl, w_869⟩⟩
theorem p_M_13 : gFp "SelfArrangerModel" 13 11 3 (.array .int) true := ⟨"SelfArrangerModel", T_M, 34, ty_M, rfl, by decide, ws_M, (Or.inl w_870), tyok_M, nm_M, rfl, by decide +kernel, fun _ => ⟨rfl, w_870⟩⟩
theorem p_M_17 : gFp "SelfArrangerModel" 17 11 4 (.array .int) true := ⟨"SelfArrangerModel", T_M, 34, ty_M, rfl, by decide, ws_M, (Or.inl w_871), tyok_M, nm_M, rfl, by decide +kernel, fun _ => ⟨rfl, w_871⟩⟩
theorem p_M_20 : gFp "SelfArrangerModel" 20 11 5 (.array .int) true := ⟨"SelfArrangerModel", T_M, 34, ty_M, rfl, by decide, ws_M, (Or.inl w_872), tyok_M, nm_M, rfl, by decide +kernel, fun _ => ⟨rfl, w_872⟩⟩
theorem p_M_23 : gFp "SelfArrangerModel" 23 11 6 (.array .int) true := ⟨"SelfArrangerModel", T_M, 34, ty_M, rfl, by decide, ws_M, (Or.inl w_873), tyok_M, nm_M, rfl, by decide +kernel, fun _ => ⟨rfl, w_873⟩⟩
theorem p_M_26 : gFp "SelfArrangerModel" 26 11 7 .int false := ⟨"SelfArrangerModel", T_M, 34, ty_M, rfl, by decide, ws_M, (Or.inl w_874), tyok_M, nm_M, rfl, by decide +kernel, fun h => by cases h⟩
theorem p_M_30 : gFp "SelfArrangerModel" 30 11 10 (.array .int) true := ⟨"SelfArrangerModel", T_M, 34, ty_M, rfl, by decide, ws_M, (Or.inl w_877), tyok_M, nm_M, rfl, by decide +kernel, fun _ => ⟨rfl, w_877⟩⟩
theorem p_M_33 : gFp "SelfArrangerModel" 33 11 11 (.array .int) true := ⟨"SelfArrangerModel", T_M, 34, ty_M, rfl, by decide, ws_M, (Or.inl w_878), tyok_M, nm_M, rfl, by decide +kernel, fun _ => ⟨rfl, w_878⟩⟩
theorem p_M_36 : gFp "SelfArrangerModel" 36 11 12 (.array .int) true := ⟨"SelfArrangerModel", T_M, 34, ty_M, rfl, by decide, ws_M, (Or.inl w_879), tyok_M, nm_M, rfl, by decide +kernel, fun _ => ⟨rfl, w_879⟩⟩
theorem p_M_39 : gFp "SelfArrangerModel" 39 11 13 .int false := ⟨"SelfArrangerModel", T_M, 34, ty_M, rfl, by decide, ws_M, (Or.inl w_880), tyok_M, nm_M, rfl, by decide +kernel, fun h => by cases h⟩
theorem p_M_42 : gFp "SelfArrangerModel" 42 11 14 .int false := ⟨"SelfArrangerModel", T_M, 34, ty_M, rfl, by decide, ws_M, (Or.inl w_881), tyok_M, nm_M, rfl, by decide +kernel, fun h => by cases h⟩
theorem p_M_45 : gFp "SelfArrangerModel" 45 11 16 (.array .int) true := ⟨"SelfArrangerModel", T_M, 34, ty_M, rfl, by decide, ws_M, (Or.inl w_883), tyok_M, nm_M, rfl, by decide +kernel, fun _ => ⟨rfl, w_883⟩⟩
theorem p_M_48 : gFp "SelfArrangerModel" 48 11 18 .int false := ⟨"SelfArrangerModel", T_M, 34, ty_M, rfl, by decide, ws_M, (Or.inl w_885), tyok_M, nm_M, rfl, by decide +kernel, fun h => by cases h⟩
theorem p_M_51 : gFp "SelfArrangerModel" 51 11 20 (.array .int) true := ⟨"SelfArrangerModel", T_M, 34, ty_M, rfl, by decide, ws_M, (Or.inl w_887), tyok_M, nm_M, rfl, by decide +kernel, fun _ => ⟨rfl, w_887⟩⟩
theorem p_M_54 : gFp "SelfArrangerModel" 54 11 21 (.array .boolean) true := ⟨"SelfArrangerModel", T_M, 34, ty_M, rfl, by decide, ws_M, (Or.inl w_888), tyok_M, nm_M, rfl, by decide +kernel, fun _ => ⟨rfl, w_888⟩⟩
theorem p_M_57 : gFp "SelfArrangerModel" 57 11 23 (.array .int) true := ⟨"SelfArrangerModel", T_M, 34, ty_M, rfl, by decide, ws_M, (Or.inl w_890), tyok_M, nm_M, rfl, by decide +kernel, fun _ => ⟨rfl, w_890⟩⟩
theorem p_M_60 : gFp "SelfArrangerModel" 60 11 25 .int false := ⟨"SelfArrangerModel", T_M, 34, ty_M, rfl, by decide, ws_M, (Or.inl w_892), tyok_M, nm_M, rfl, by decide +kernel, fun h => by cases h⟩
theorem p_M_63 : gFp "SelfArrangerModel" 63 11 29 (.array .int) true := ⟨"SelfArrangerModel", T_M, 34, ty_M, rfl, by decide, ws_M, (Or.inl w_896), tyok_M, nm_M, rfl, by decide +kernel, fun _ => ⟨rfl, w_896⟩⟩
theorem p_M_66 : gFp "SelfArrangerModel" 66 11 33 (.array .int) true := ⟨"SelfArrangerModel", T_M, 34, ty_M, rfl, by decide, ws_M, (Or.inl w_900), tyok_M, nm_M, rfl, by decide +kernel, fun _ => ⟨rfl, w_900⟩⟩
theorem p_M_69 : gFp "SelfArrangerModel" 69 11 19 .int true := ⟨"SelfArrangerModel", T_M, 34, ty_M, rfl, by decide, ws_M, (Or.inl w_886), tyok_M, nm_M, rfl, by decide +kernel, fun _ => ⟨rfl, w_886⟩⟩
theorem g_M_51 : gFg "SelfArrangerModel" 51 11 20 := ⟨"SelfArrangerModel", T_M, 34, rfl, by decide, ws_M, (Or.inl w_887)⟩
theorem g_M_72 : gFg "SelfArrangerModel" 72 11 0 := ⟨"SelfArrangerModel", T_M, 34, rfl, by decide, ws_M, (Or.inl w_867)⟩
theorem c_M_87 : gCS "SelfArrangerModel" 87 m_M_isValue 1 := ⟨(Or.inl ⟨rfl, w_980⟩), (Or.inl w_978), w_979, w_13, ⟨by decide, by decide, by decide +kernel, by decide⟩⟩
theorem g_M_75 : gFg "SelfArrangerModel" 75 11 1 := ⟨"SelfArrangerModel", T_M, 34, rfl, by decide, ws_M, (Or.inl w_868)⟩
theorem p_M_72 : gFp "SelfArrangerModel" 72 11 0 .int false := ⟨"SelfArrangerModel", T_M, 34, ty_M, rfl, by decide, ws_M, (Or.inl w_867), tyok_M, nm_M, rfl, by decide +kernel, fun h => by cases h⟩
theorem g_M_13 : gFg "SelfArrangerModel" 13 11 3 := ⟨"SelfArrangerModel", T_M, 34, rfl, by decide, ws_M, (Or.inl w_870)⟩
theorem g_M_7 : gFg "SelfArrangerModel" 7 11 2 := ⟨"SelfArrangerModel", T_M, 34, rfl, by decide, ws_M, (Or.inl w_869)⟩
theorem p_M_75 : gFp "SelfArrangerModel" 75 11 1 .int false := ⟨"SelfArrangerModel", T_M, 34, ty_M, rfl, by decide, ws_M, (Or.inl w_868), tyok_M, nm_M, rfl, by decide +kernel, fun h => by cases h⟩
theorem c_M_91 : gCV "SelfArrangerModel" 91 m_M_note 1 := ⟨(Or.inl ⟨rfl, w_984⟩), (Or.inl w_981), w_983, wp_60, ⟨by decide, by decide, by decide +kernel, by decide⟩⟩
theorem g_M_78 : gFg "SelfArrangerModel" 78 11 17 := ⟨"SelfArrangerModel", T_M, 34, rfl, by decide, ws_M, (Or.inl w_884)⟩
theorem p_M_78 : gFp "SelfArrangerModel" 78 11 17 .int false := ⟨"SelfArrangerModel", T_M, 34, ty_M, rfl, by decide, ws_M, (Or.inl w_884), tyok_M, nm_M, rfl, by decide +kernel, fun h => by cases h⟩
theorem g_M_26 : gFg "SelfArrangerModel" 26 11 7 := ⟨"SelfArrangerModel", T_M, 34, rfl, by decide, ws_M, (Or.inl w_874)⟩
theorem g_M_81 : gFg "SelfArrangerModel" 81 11 8 := ⟨"SelfArrangerModel", T_M, 34, rfl, by decide, ws_M, (Or.inl w_875)⟩
theorem g_M_84 : gFg "SelfArrangerModel" 84 11 9 := ⟨"SelfArrangerModel", T_M, 34, rfl, by decide, ws_M, (Or.inl w_876)⟩
theorem p_M_84 : gFp "SelfArrangerModel" 84 11 9 .int false := ⟨"SelfArrangerModel", T_M, 34, ty_M, rfl, by decide, ws_M, (Or.inl w_876), tyok_M, nm_M, rfl, by decide +kernel, fun h => by cases h⟩
theorem c_M_95 : gCV "SelfArrangerModel" 95 m_M_isRow 1 := ⟨(Or.inl ⟨rfl, w_992⟩), (Or.inl w_989), w_991, wp_61, ⟨by decide, by decide, by decide +kernel, by decide⟩⟩
theorem c_M_98 : gCS "SelfArrangerModel" 98 m_M_isColumn 1 := ⟨(Or.inl ⟨rfl, w_999⟩), (Or.inl w_997), w_998, w_13, ⟨by decide, by decide, by decide +kernel, by decide⟩⟩
theorem c_M_123 : gCS "SelfArrangerModel" 123 m_M_isIndex 1 := ⟨(Or.inl ⟨rfl, w_1010⟩), (Or.inl w_1008), w_1009, w_13, ⟨by decide, by decide, by decide +kernel, by decide⟩⟩
theorem g_M_23 : gFg "SelfArrangerModel" 23 11 6 := ⟨"SelfArrangerModel", T_M, 34, rfl, by decide, ws_M, (Or.inl w_873)⟩
theorem c_M_126 : gCV "SelfArrangerModel" 126 m_M_height 0 := ⟨(Or.inl ⟨rfl, w_1014⟩), (Or.inl w_1011), w_1013, wp_62, ⟨by decide, by decide, by decide +kernel, by decide⟩⟩
theorem c_M_129 : gCV "SelfArrangerModel" 129 m_M_sizeOfIndex 0 := ⟨(Or.inl ⟨rfl, w_1029⟩), (Or.inl w_1026), w_1028, wp_65, ⟨by decide, by decide, by decide +kernel, by decide⟩⟩
theorem g_M_17 : gFg "SelfArrangerModel" 17 11 4 := ⟨"SelfArrangerModel", T_M, 34, rfl, by decide, ws_M, (Or.inl w_871)⟩
theorem g_M_20 : gFg "SelfArrangerModel" 20 11 5 := ⟨"SelfArrangerModel", T_M, 34, rfl, by decide, ws_M, (Or.inl w_872)⟩
theorem c_M_132 : gCV "SelfArrangerModel" 132 m_M_sort 2 := ⟨(Or.inl ⟨rfl, w_1033⟩), (Or.inl w_1030), w_1032, wp_66, ⟨by decide, by decide, by decide +kernel, by decide⟩⟩
theorem g_M_105 : gFg "SelfArrangerModel" 105 11 30 := ⟨"SelfArrangerModel", T_M, 34, rfl, by decide, ws_M, (Or.inl w_897)⟩
theorem g_M_63 : gFg "SelfArrangerModel" 63 11 29 := ⟨"SelfArrangerModel", T_M, 34, rfl, by decide, ws_M, (Or.inl w_896)⟩
theorem c_M_120 : gCV "SelfArrangerModel" 120 m_M_leaves 0 := ⟨(Or.inl ⟨rfl, w_1018⟩), (Or.inl w_1015), w_1017, wp_63, ⟨by decide, by decide, by decide +kernel, by decide⟩⟩
theorem c_M_116 : gCS "SelfArrangerModel" 116 m_M_byFour 1 := ⟨(Or.inl ⟨rfl, w_1025⟩), (Or.inl w_1023), w_1024, w_13, ⟨by decide, by decide, by decide +kernel, by decide⟩⟩
theorem c_M_112 : gCV "SelfArrangerModel" 112 m_M_live 0 := ⟨(Or.inl ⟨rfl, w_1022⟩), (Or.inl w_1019), w_1021, wp_64, ⟨by decide, by decide, by decide +kernel, by decide⟩⟩
theorem p_M_105 : gFp "SelfArrangerModel" 105 11 30 .int false := ⟨"SelfArrangerModel", T_M, 34, ty_M, rfl, by decide, ws_M, (Or.inl w_897), tyok_M, nm_M, rfl, by decide +kernel, fun h => by cases h⟩
theorem c_M_108 : gCV "SelfArrangerModel" 108 m_M_isBefore 4 := ⟨(Or.inl ⟨rfl, w_1037⟩), (Or.inl w_1034), w_1036, wp_67, ⟨by decide, by decide, by decide +kernel, by decide⟩⟩
theorem c_M_101 : gCV "SelfArrangerModel" 101 m_M_of 2 := ⟨(Or.inl ⟨rfl, w_1041⟩), (Or.inl w_1038), w_1040, wp_68, ⟨by decide, by decide, by decide +kernel, by decide⟩⟩
theorem c_M_162 : gCV "SelfArrangerModel" 162 m_M_heapPages 0 := ⟨(Or.inl ⟨rfl, w_1049⟩), (Or.inl w_1046), w_1048, wp_69, ⟨by decide, by decide, by decide +kernel, by decide⟩⟩
theorem c_M_165 : gCV "SelfArrangerModel" 165 m_M_isWay 2 := ⟨(Or.inl ⟨rfl, w_1053⟩), (Or.inl w_1050), w_1052, wp_70, ⟨by decide, by decide, by decide +kernel, by decide⟩⟩
theorem c_M_168 : gCV "SelfArrangerModel" 168 m_M_costBy 2 := ⟨(Or.inl ⟨rfl, w_1057⟩), (Or.inl w_1054), w_1056, wp_71, ⟨by decide, by decide, by decide +kernel, by decide⟩⟩
theorem g_M_30 : gFg "SelfArrangerModel" 30 11 10 := ⟨"SelfArrangerModel", T_M, 34, rfl, by decide, ws_M, (Or.inl w_877)⟩
theorem c_M_156 : gCV "SelfArrangerModel" 156 m_M_stretch 2 := ⟨(Or.inl ⟨rfl, w_1061⟩), (Or.inl w_1058), w_1060, wp_72, ⟨by decide, by decide, by decide +kernel, by decide⟩⟩
theorem c_M_159 : gCV "SelfArrangerModel" 159 m_M_leavesTouched 0 := ⟨(Or.inl ⟨rfl, w_1081⟩), (Or.inl w_1078), w_1080, wp_77, ⟨by decide, by decide, by decide +kernel, by decide⟩⟩
theorem g_M_150 : gFg "SelfArrangerModel" 150 11 32 := ⟨"SelfArrangerModel", T_M, 34, rfl, by decide, ws_M, (Or.inl w_899)⟩
theorem g_M_144 : gFg "SelfArrangerModel" 144 11 31 := ⟨"SelfArrangerModel", T_M, 34, rfl, by decide, ws_M, (Or.inl w_898)⟩
theorem p_M_144 : gFp "SelfArrangerModel" 144 11 31 .int false := ⟨"SelfArrangerModel", T_M, 34, ty_M, rfl, by decide, ws_M, (Or.inl w_898), tyok_M, nm_M, rfl, by decide +kernel, fun h => by cases h⟩
theorem c_M_147 : gCV "SelfArrangerModel" 147 m_M_isAhead 3 := ⟨(Or.inl ⟨rfl, w_1065⟩), (Or.inl w_1062), w_1064, wp_73, ⟨by decide, by decide, by decide +kernel, by decide⟩⟩
theorem p_M_150 : gFp "SelfArrangerModel" 150 11 32 .int false := ⟨"SelfArrangerModel", T_M, 34, ty_M, rfl, by decide, ws_M, (Or.inl w_899), tyok_M, nm_M, rfl, by decide +kernel, fun h => by cases h⟩
theorem c_M_153 : gCV "SelfArrangerModel" 153 m_M_isIn 3 := ⟨(Or.inl ⟨rfl, w_1073⟩), (Or.inl w_1070), w_1072, wp_75, ⟨by decide, by decide, by decide +kernel, by decide⟩⟩
theorem g_M_33 : gFg "SelfArrangerModel" 33 11 11 := ⟨"SelfArrangerModel", T_M, 34, rfl, by decide, ws_M, (Or.inl w_878)⟩
theorem c_M_136 : gCV "SelfArrangerModel" 136 m_M_countsSecond 2 := ⟨(Or.inl ⟨rfl, w_1069⟩), (Or.inl w_1066), w_1068, wp_74, ⟨by decide, by decide, by decide +kernel, by decide⟩⟩
theorem c_M_140 : gCV "SelfArrangerModel" 140 m_M_fits 3 := ⟨(Or.inl ⟨rfl, w_1077⟩), (Or.inl w_1074), w_1076, wp_76, ⟨by decide, by decide, by decide +kernel, by decide⟩⟩
theorem g_M_36 : gFg "SelfArrangerModel" 36 11 12 := ⟨"SelfArrangerModel", T_M, 34, rfl, by decide, ws_M, (Or.inl w_879)⟩
theorem c_M_196 : gCV "SelfArrangerModel" 196 m_M_wayOf 2 := ⟨(Or.inl ⟨rfl, w_1097⟩), (Or.inl w_1094), w_1096, wp_78, ⟨by decide, by decide, by decide +kernel, by decide⟩⟩
theorem g_M_60 : gFg "SelfArrangerModel" 60 11 25 := ⟨"SelfArrangerModel", T_M, 34, rfl, by decide, ws_M, (Or.inl w_892)⟩
theorem c_M_199 : gCV "SelfArrangerModel" 199 m_M_costOfWay 2 := ⟨(Or.inl ⟨rfl, w_1101⟩), (Or.inl w_1098), w_1100, wp_79, ⟨by decide, by decide, by decide +kernel, by decide⟩⟩
theorem p_M_202 : gFp "SelfArrangerModel" 202 11 26 .int false := ⟨"SelfArrangerModel", T_M, 34, ty_M, rfl, by decide, ws_M, (Or.inl w_893), tyok_M, nm_M, rfl, by decide +kernel, fun h => by cases h⟩
theorem p_M_171 : gFp "SelfArrangerModel" 171 11 27 .int false := ⟨"SelfArrangerModel", T_M, 34, ty_M, rfl, by decide, ws_M, (Or.inl w_894), tyok_M, nm_M, rfl, by decide +kernel, fun h => by cases h⟩
theorem p_M_174 : gFp "SelfArrangerModel" 174 11 28 .int false := ⟨"SelfArrangerModel", T_M, 34, ty_M, rfl, by decide, ws_M, (Or.inl w_895), tyok_M, nm_M, rfl, by decide +kernel, fun h => by cases h⟩
theorem c_M_183 : gCV "SelfArrangerModel" 183 m_M_touch 3 := ⟨(Or.inl ⟨rfl, w_1105⟩), (Or.inl w_1102), w_1104, wp_80, ⟨by decide, by decide, by decide +kernel, by decide⟩⟩
theorem c_M_205 : gCV "SelfArrangerModel" 205 m_M_touchIndex 1 := ⟨(Or.inl ⟨rfl, w_1109⟩), (Or.inl w_1106), w_1108, wp_81, ⟨by decide, by decide, by decide +kernel, by decide⟩⟩
theorem g_M_39 : gFg "SelfArrangerModel" 39 11 13 := ⟨"SelfArrangerModel", T_M, 34, rfl, by decide, ws_M, (Or.inl w_880)⟩
theorem p_M_208 : gFp "SelfArrangerModel" 208 11 24 .int false := ⟨"SelfArrangerModel", T_M, 34, ty_M, rfl, by decide, ws_M, (Or.inl w_891), tyok_M, nm_M, rfl, by decide +kernel, fun h => by cases h⟩
theorem g_M_208 : gFg "SelfArrangerModel" 208 11 24 := ⟨"SelfArrangerModel", T_M, 34, rfl, by decide, ws_M, (Or.inl w_891)⟩
theorem g_M_42 : gFg "SelfArrangerModel" 42 11 14 := ⟨"SelfArrangerModel", T_M, 34, rfl, by decide, ws_M, (Or.inl w_881)⟩
theorem g_M_57 : gFg "SelfArrangerModel" 57 11 23 := ⟨"SelfArrangerModel", T_M, 34, rfl, by decide, ws_M, (Or.inl w_890)⟩
theorem c_M_211 : gCV "SelfArrangerModel" 211 m_M_remember 0 := ⟨(Or.inl ⟨rfl, w_1117⟩), (Or.inl w_1114), w_1116, wp_83, ⟨by decide, by decide, by decide +kernel, by decide⟩⟩
theorem g_M_171 : gFg "SelfArrangerModel" 171 11 27 := ⟨"SelfArrangerModel", T_M, 34, rfl, by decide, ws_M, (Or.inl w_894)⟩
theorem g_M_69 : gFg "SelfArrangerModel" 69 11 19 := ⟨"SelfArrangerModel", T_M, 34, rfl, by decide, ws_M, (Or.inl w_886)⟩
theorem g_M_54 : gFg "SelfArrangerModel" 54 11 21 := ⟨"SelfArrangerModel", T_M, 34, rfl, by decide, ws_M, (Or.inl w_888)⟩
theorem g_M_174 : gFg "SelfArrangerModel" 174 11 28 := ⟨"SelfArrangerModel", T_M, 34, rfl, by decide, ws_M, (Or.inl w_895)⟩
theorem g_M_177 : gFg "SelfArrangerModel" 177 11 22 := ⟨"SelfArrangerModel", T_M, 34, rfl, by decide, ws_M, (Or.inl w_889)⟩
theorem p_M_177 : gFp "SelfArrangerModel" 177 11 22 .int false := ⟨"SelfArrangerModel", T_M, 34, ty_M, rfl, by decide, ws_M, (Or.inl w_889), tyok_M, nm_M, rfl, by decide +kernel, fun h => by cases h⟩
theorem c_M_180 : gCV "SelfArrangerModel" 180 m_M_firstLeaf 0 := ⟨(Or.inl ⟨rfl, w_1113⟩), (Or.inl w_1110), w_1112, wp_82, ⟨by decide, by decide, by decide +kernel, by decide⟩⟩
theorem c_M_190 : gCV "SelfArrangerModel" 190 m_M_findShape 0 := ⟨(Or.inl ⟨rfl, w_1121⟩), (Or.inl w_1118), w_1120, wp_84, ⟨by decide, by decide, by decide +kernel, by decide⟩⟩
theorem g_M_187 : gFg "SelfArrangerModel" 187 11 15 := ⟨"SelfArrangerModel", T_M, 34, rfl, by decide, ws_M, (Or.inl w_882)⟩
theorem p_M_187 : gFp "SelfArrangerModel" 187 11 15 .int false := ⟨"SelfArrangerModel", T_M, 34, ty_M, rfl, by decide, ws_M, (Or.inl w_882), tyok_M, nm_M, rfl, by decide +kernel, fun h => by cases h⟩
theorem g_M_45 : gFg "SelfArrangerModel" 45 11 16 := ⟨"SelfArrangerModel", T_M, 34, rfl, by decide, ws_M, (Or.inl w_883)⟩
theorem c_M_193 : gCV "SelfArrangerModel" 193 m_M_copyShape 2 := ⟨(Or.inl ⟨rfl, w_1125⟩), (Or.inl w_1122), w_1124, wp_85, ⟨by decide, by decide, by decide +kernel, by decide⟩⟩
theorem g_M_202 : gFg "SelfArrangerModel" 202 11 26 := ⟨"SelfArrangerModel", T_M, 34, rfl, by decide, ws_M, (Or.inl w_893)⟩
theorem g_M_48 : gFg "SelfArrangerModel" 48 11 18 := ⟨"SelfArrangerModel", T_M, 34, rfl, by decide, ws_M, (Or.inl w_885)⟩
theorem c_M_217 : gCV "SelfArrangerModel" 217 m_M_findCosts 0 := ⟨(Or.inl ⟨rfl, w_1161⟩), (Or.inl w_1158), w_1160, wp_86, ⟨by decide, by decide, by decide +kernel, by decide⟩⟩
theorem c_M_220 : gCV "SelfArrangerModel" 220 m_M_sumOf 1 := ⟨(Or.inl ⟨rfl, w_1165⟩), (Or.inl w_1162), w_1164, wp_87, ⟨by decide, by decide, by decide +kernel, by decide⟩⟩
theorem c_M_214 : gCS "SelfArrangerModel" 214 m_M_members 1 := ⟨(Or.inl ⟨rfl, w_1168⟩), (Or.inl w_1166), w_1167, w_13, ⟨by decide, by decide, by decide +kernel, by decide⟩⟩
theorem g_M_66 : gFg "SelfArrangerModel" 66 11 33 := ⟨"SelfArrangerModel", T_M, 34, rfl, by decide, ws_M, (Or.inl w_900)⟩
theorem p_M_81 : gFp "SelfArrangerModel" 81 11 8 .int false := ⟨"SelfArrangerModel", T_M, 34, ty_M, rfl, by decide, ws_M, (Or.inl w_875), tyok_M, nm_M, rfl, by decide +kernel, fun h => by cases h⟩
theorem c_M_224 : gCV "SelfArrangerModel" 224 m_M_settle 0 := ⟨(Or.inl ⟨rfl, w_1180⟩), (Or.inl w_1177), w_1179, wp_88, ⟨by decide, by decide, by decide +kernel, by decide⟩⟩
theorem c_M_227 : gCV "SelfArrangerModel" 227 m_M_leftToDo 0 := ⟨(Or.inl ⟨rfl, w_1184⟩), (Or.inl w_1181), w_1183, wp_89, ⟨by decide, by decide, by decide +kernel, by decide⟩⟩
theorem c_L_74 : gCS "SelfArrangerLaw" 74 m_L_cell 2 := ⟨(Or.inl ⟨rfl, w_533⟩), (Or.inl w_531), w_532, w_0, ⟨by decide, by decide, by decide +kernel, by decide⟩⟩
theorem c_L_80 : gCI "SelfArrangerLaw" 80 m_A_init 1 := ⟨(Or.inl ⟨rfl, w_26⟩), rfl, rfl, w_26, (Or.inl w_24), w_25, rfl, ⟨by decide, by decide, by decide +kernel, by decide⟩⟩
theorem c_L_84 : gCI "SelfArrangerLaw" 84 m_M_init 1 := ⟨(Or.inl ⟨rfl, w_865⟩), rfl, rfl, w_865, (Or.inl w_863), w_864, rfl, ⟨by decide, by decide, by decide +kernel, by decide⟩⟩
theorem c_L_85 : gCS "SelfArrangerLaw" 85 m_L_insert 5 := ⟨(Or.inr ⟨_, rfl, w_536⟩), (Or.inl w_534), w_535, w_0, ⟨by decide, by decide, by decide +kernel, by decide⟩⟩
theorem c_L_88 : gCV "SelfArrangerLaw" 88 m_M_insert 3 := ⟨(Or.inl ⟨rfl, w_977⟩), (Or.inl w_974), w_975, w_976, ⟨by decide, by decide, by decide +kernel, by decide⟩⟩
theorem c_L_89 : gCV "SelfArrangerLaw" 89 m_M_thrown 0 := ⟨(Or.inl ⟨rfl, w_973⟩), (Or.inl w_970), w_971, w_972, ⟨by decide, by decide, by decide +kernel, by decide⟩⟩
theorem c_L_93 : gCS "SelfArrangerLaw" 93 m_L_delete 2 := ⟨(Or.inr ⟨_, rfl, w_661⟩), (Or.inl w_659), w_660, w_0, ⟨by decide, by decide, by decide +kernel, by decide⟩⟩
theorem c_L_96 : gCV "SelfArrangerLaw" 96 m_M_delete 1 := ⟨(Or.inl ⟨rfl, w_988⟩), (Or.inl w_985), w_986, w_987, ⟨by decide, by decide, by decide +kernel, by decide⟩⟩
theorem c_L_97 : gCS "SelfArrangerLaw" 97 m_L_change 4 := ⟨(Or.inr ⟨_, rfl, w_693⟩), (Or.inl w_691), w_692, w_0, ⟨by decide, by decide, by decide +kernel, by decide⟩⟩
theorem c_L_100 : gCV "SelfArrangerLaw" 100 m_M_change 3 := ⟨(Or.inl ⟨rfl, w_996⟩), (Or.inl w_993), w_994, w_995, ⟨by decide, by decide, by decide +kernel, by decide⟩⟩
theorem c_L_101 : gCS "SelfArrangerLaw" 101 m_L_value 4 := ⟨(Or.inr ⟨_, rfl, w_705⟩), (Or.inl w_703), w_704, w_0, ⟨by decide, by decide, by decide +kernel, by decide⟩⟩
theorem c_L_104 : gCV "SelfArrangerLaw" 104 m_M_value 2 := ⟨(Or.inl ⟨rfl, w_1003⟩), (Or.inl w_1000), w_1001, w_1002, ⟨by decide, by decide, by decide +kernel, by decide⟩⟩
theorem c_L_105 : gCS "SelfArrangerLaw" 105 m_L_where 5 := ⟨(Or.inr ⟨_, rfl, w_713⟩), (Or.inl w_711), w_712, w_0, ⟨by decide, by decide, by decide +kernel, by decide⟩⟩
theorem c_L_108 : gCV "SelfArrangerLaw" 108 m_M_where 4 := ⟨(Or.inl ⟨rfl, w_1085⟩), (Or.inl w_1082), w_1083, w_1084, ⟨by decide, by decide, by decide +kernel, by decide⟩⟩
theorem c_L_109 : gCS "SelfArrangerLaw" 109 m_L_order 3 := ⟨(Or.inr ⟨_, rfl, w_722⟩), (Or.inl w_720), w_721, w_0, ⟨by decide, by decide, by decide +kernel, by decide⟩⟩
theorem c_L_112 : gCV "SelfArrangerLaw" 112 m_M_order 2 := ⟨(Or.inl ⟨rfl, w_1089⟩), (Or.inl w_1086), w_1087, w_1088, ⟨by decide, by decide, by decide +kernel, by decide⟩⟩
theorem c_L_113 : gCV "SelfArrangerLaw" 113 m_A_ask 0 := ⟨(Or.inl ⟨rfl, w_296⟩), (Or.inl w_293), w_294, w_295, ⟨by decide, by decide, by decide +kernel, by decide⟩⟩
theorem c_L_116 : gCV "SelfArrangerLaw" 116 m_M_ask 0 := ⟨(Or.inl ⟨rfl, w_1093⟩), (Or.inl w_1090), w_1091, w_1092, ⟨by decide, by decide, by decide +kernel, by decide⟩⟩
theorem c_L_117 : gCS "SelfArrangerLaw" 117 m_L_answer 3 := ⟨(Or.inr ⟨_, rfl, w_730⟩), (Or.inl w_728), w_729, w_0, ⟨by decide, by decide, by decide +kernel, by decide⟩⟩
theorem c_L_120 : gCV "SelfArrangerLaw" 120 m_M_answer 1 := ⟨(Or.inl ⟨rfl, w_1129⟩), (Or.inl w_1126), w_1127, w_1128, ⟨by decide, by decide, by decide +kernel, by decide⟩⟩
theorem c_L_121 : gCS "SelfArrangerLaw" 121 m_L_last 3 := ⟨(Or.inr ⟨_, rfl, w_738⟩), (Or.inl w_736), w_737, w_0, ⟨by decide, by decide, by decide +kernel, by decide⟩⟩
theorem c_L_123 : gCV "SelfArrangerLaw" 123 m_M_last 1 := ⟨(Or.inl ⟨rfl, w_1133⟩), (Or.inl w_1130), w_1131, w_1132, ⟨by decide, by decide, by decide +kernel, by decide⟩⟩
theorem c_L_124 : gCS "SelfArrangerLaw" 124 m_L_cost 3 := ⟨(Or.inr ⟨_, rfl, w_746⟩), (Or.inl w_744), w_745, w_0, ⟨by decide, by decide, by decide +kernel, by decide⟩⟩
theorem c_L_126 : gCV "SelfArrangerLaw" 126 m_M_cost 1 := ⟨(Or.inl ⟨rfl, w_1045⟩), (Or.inl w_1042), w_1043, w_1044, ⟨by decide, by decide, by decide +kernel, by decide⟩⟩
theorem c_L_127 : gCS "SelfArrangerLaw" 127 m_L_index 4 := ⟨(Or.inr ⟨_, rfl, w_757⟩), (Or.inl w_755), w_756, w_0, ⟨by decide, by decide, by decide +kernel, by decide⟩⟩
theorem c_L_129 : gCV "SelfArrangerLaw" 129 m_M_index 2 := ⟨(Or.inl ⟨rfl, w_1007⟩), (Or.inl w_1004), w_1005, w_1006, ⟨by decide, by decide, by decide +kernel, by decide⟩⟩
theorem c_L_130 : gCV "SelfArrangerLaw" 130 m_A_shapes 0 := ⟨(Or.inl ⟨rfl, w_481⟩), (Or.inl w_478), w_479, w_480, ⟨by decide, by decide, by decide +kernel, by decide⟩⟩
theorem c_L_133 : gCV "SelfArrangerLaw" 133 m_M_shapes 0 := ⟨(Or.inl ⟨rfl, w_1137⟩), (Or.inl w_1134), w_1135, w_1136, ⟨by decide, by decide, by decide +kernel, by decide⟩⟩
theorem c_L_134 : gCS "SelfArrangerLaw" 134 m_L_shape 4 := ⟨(Or.inr ⟨_, rfl, w_773⟩), (Or.inl w_771), w_772, w_0, ⟨by decide, by decide, by decide +kernel, by decide⟩⟩
theorem c_L_136 : gCV "SelfArrangerLaw" 136 m_M_shape 2 := ⟨(Or.inl ⟨rfl, w_1141⟩), (Or.inl w_1138), w_1139, w_1140, ⟨by decide, by decide, by decide +kernel, by decide⟩⟩
theorem c_L_137 : gCV "SelfArrangerLaw" 137 m_A_changes 0 := ⟨(Or.inl ⟨rfl, w_485⟩), (Or.inl w_482), w_483, w_484, ⟨by decide, by decide, by decide +kernel, by decide⟩⟩
theorem c_L_140 : gCV "SelfArrangerLaw" 140 m_M_changes 0 := ⟨(Or.inl ⟨rfl, w_1145⟩), (Or.inl w_1142), w_1143, w_1144, ⟨by decide, by decide, by decide +kernel, by decide⟩⟩
theorem c_L_141 : gCV "SelfArrangerLaw" 141 m_A_period 0 := ⟨(Or.inl ⟨rfl, w_489⟩), (Or.inl w_486), w_487, w_488, ⟨by decide, by decide, by decide +kernel, by decide⟩⟩
theorem c_L_144 : gCV "SelfArrangerLaw" 144 m_M_period 0 := ⟨(Or.inl ⟨rfl, w_1149⟩), (Or.inl w_1146), w_1147, w_1148, ⟨by decide, by decide, by decide +kernel, by decide⟩⟩
theorem c_L_145 : gCS "SelfArrangerLaw" 145 m_L_budget 2 := ⟨(Or.inr ⟨_, rfl, w_784⟩), (Or.inl w_782), w_783, w_0, ⟨by decide, by decide, by decide +kernel, by decide⟩⟩
theorem c_L_147 : gCV "SelfArrangerLaw" 147 m_M_budget 1 := ⟨(Or.inl ⟨rfl, w_1153⟩), (Or.inl w_1150), w_1151, w_1152, ⟨by decide, by decide, by decide +kernel, by decide⟩⟩
theorem c_L_148 : gCV "SelfArrangerLaw" 148 m_A_choose 0 := ⟨(Or.inl ⟨rfl, w_500⟩), (Or.inl w_497), w_498, w_499, ⟨by decide, by decide, by decide +kernel, by decide⟩⟩
theorem c_L_151 : gCV "SelfArrangerLaw" 151 m_M_choose 0 := ⟨(Or.inl ⟨rfl, w_1157⟩), (Or.inl w_1154), w_1155, w_1156, ⟨by decide, by decide, by decide +kernel, by decide⟩⟩
theorem c_L_152 : gCS "SelfArrangerLaw" 152 m_L_costOf 3 := ⟨(Or.inr ⟨_, rfl, w_792⟩), (Or.inl w_790), w_791, w_0, ⟨by decide, by decide, by decide +kernel, by decide⟩⟩
theorem c_L_154 : gCV "SelfArrangerLaw" 154 m_M_costOf 1 := ⟨(Or.inl ⟨rfl, w_1172⟩), (Or.inl w_1169), w_1170, w_1171, ⟨by decide, by decide, by decide +kernel, by decide⟩⟩
theorem c_L_155 : gCS "SelfArrangerLaw" 155 m_L_build 2 := ⟨(Or.inr ⟨_, rfl, w_801⟩), (Or.inl w_799), w_800, w_0, ⟨by decide, by decide, by decide +kernel, by decide⟩⟩
theorem c_L_157 : gCV "SelfArrangerLaw" 157 m_M_build 1 := ⟨(Or.inl ⟨rfl, w_1176⟩), (Or.inl w_1173), w_1174, w_1175, ⟨by decide, by decide, by decide +kernel, by decide⟩⟩
theorem c_L_158 : gCS "SelfArrangerLaw" 158 m_L_work 3 := ⟨(Or.inr ⟨_, rfl, w_838⟩), (Or.inl w_836), w_837, w_0, ⟨by decide, by decide, by decide +kernel, by decide⟩⟩
theorem c_L_160 : gCV "SelfArrangerLaw" 160 m_M_work 1 := ⟨(Or.inl ⟨rfl, w_1188⟩), (Or.inl w_1185), w_1186, w_1187, ⟨by decide, by decide, by decide +kernel, by decide⟩⟩
theorem c_L_161 : gCS "SelfArrangerLaw" 161 m_L_drop 3 := ⟨(Or.inr ⟨_, rfl, w_852⟩), (Or.inl w_850), w_851, w_0, ⟨by decide, by decide, by decide +kernel, by decide⟩⟩
theorem c_L_163 : gCV "SelfArrangerLaw" 163 m_M_drop 1 := ⟨(Or.inl ⟨rfl, w_1192⟩), (Or.inl w_1189), w_1190, w_1191, ⟨by decide, by decide, by decide +kernel, by decide⟩⟩
