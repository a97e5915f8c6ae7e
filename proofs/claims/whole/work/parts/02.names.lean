/-! Names (written by wip/emit.py out of the Statement): methods, classes, words -/
-- a method: name, bytes, locals, return type, handlers (none: not known)
abbrev gM : Type := MethodName × ByteArray × Nat × Option FieldType × Option (List (Nat × Nat × Nat × Nat))
abbrev gM.y (M : gM) : MethodName := M.1
abbrev gM.code (M : gM) : ByteArray := M.2.1
abbrev gM.maxL (M : gM) : Nat := M.2.2.1
abbrev gM.ret (M : gM) : Option FieldType := M.2.2.2.1
abbrev gM.hh (M : gM) : Option (List (Nat × Nat × Nat × Nat)) := M.2.2.2.2
def gD (M : gM) (pc : Nat) (i : Instr) (n pc' : Nat) : Prop := decode M.code pc = .ok (i, n) ∧ pc + n = pc'
def gRd : Cond → Bool
  | .fieldLinkNest .. => true
  | .methodLinkNest .. => true
  | .castable .. => true
  | .declares _ => true
  | c => c.onTables && c.keeps
theorem gRd_on {w : Cond} (h : gRd w = true) : w.onTables = true := by
  unfold gRd at h
  split at h
  · rfl
  · rfl
  · rfl
  · rfl
  · simp only [Bool.and_eq_true] at h
    exact h.1
theorem gRd_ride {w : Cond} (h : gRd w = true) {s U : State} (hW : s.WarmedH U.vm) (hb : w.before #[] s = true) : w.before #[] U = true := by
  unfold gRd at h
  split at h
  · exact va_Nw.warmF hW hb
  · exact va_Nw.warmM hW hb
  · exact va_Nw.warmC hW hb
  · exact va_Nw.warmD hW hb
  · exact word_at hW (Or.inl h) hb
-- the words that stay true under warmer tables
def gTW : List Cond := lw_tbl.filter gRd
theorem gTW_on (w : Cond) (h : w ∈ gTW) : w.onTables = true := gRd_on (List.mem_filter.mp h).2
theorem gTW_in {w : Cond} (i : Nat) (h : tables_1[i]? = some w) (hr : gRd w = true) : w ∈ gTW := List.mem_filter.mpr ⟨List.mem_append_right _ (List.mem_of_getElem? h), hr⟩
theorem gTW_sel {y : MethodName} (i n : Nat) (h : lw_privs[i]? = some (y, n)) (hr : gRd (Cond.selects y.cls y y) = true) : Cond.selects y.cls y y ∈ gTW := List.mem_filter.mpr ⟨List.mem_append_left _ (List.mem_map.mpr ⟨(y, n), List.mem_of_getElem? h, rfl⟩), hr⟩
-- the texts of the exceptions
def gSTR : List (String × Nat × String) := [("SelfArranger", 287, "the value is not from -1000 to 1000"), ("SelfArranger", 100, "there were 64 rows"), ("SelfArranger", 281, "the row is not there"), ("SelfArranger", 283, "no such column"), ("SelfArranger", 131, "no such kind of condition"), ("SelfArranger", 137, "the limit is not 0 .. 64"), ("SelfArranger", 157, "the answer has no such row"), ("SelfArranger", 173, "no such figure of an asking"), ("SelfArranger", 285, "no such index"), ("SelfArranger", 204, "no such figure of an index"), ("SelfArranger", 207, "no such shape"), ("SelfArranger", 231, "no such figure of a shape"), ("SelfArranger", 239, "the budget is not 0 .. 200"), ("SelfArranger", 246, "the set is not 0 .. 511"), ("SelfArranger", 257, "the index is not none, or another one is building"), ("SelfArranger", 263, "the number is not 1 .. 64"), ("SelfArranger", 265, "no index is building")]
def gShape : String := "SelfArranger$Shape"
def gEx : Nat → String
  | 0 => "java/lang/IllegalArgumentException"
  | 1 => "java/lang/UnsupportedOperationException"
  | 2 => "java/lang/IndexOutOfBoundsException"
  | _ => "java/lang/IllegalStateException"
def m_A_init : gM := (⟨"SelfArranger", "<init>", "(I)V"⟩, prog_1_method_1_code, 2, none, (some []))
def m_T_init : gM := (⟨"SelfArranger$Table", "<init>", "()V"⟩, prog_10_method_1_code, 1, none, (some []))
def m_C_init : gM := (⟨"SelfArranger$Conditions", "<init>", "()V"⟩, prog_4_method_1_code, 1, none, (some []))
def m_S_init : gM := (⟨"SelfArranger$Stretch", "<init>", "(LSelfArranger$Table;)V"⟩, prog_9_method_1_code, 2, none, (some []))
def m_R_init : gM := (⟨"SelfArranger$RowList", "<init>", "()V"⟩, prog_7_method_1_code, 1, none, (some []))
def m_W_init : gM := (⟨"SelfArranger$WayCosts", "<init>", "()V"⟩, prog_11_method_1_code, 1, none, (some []))
def m_P_init : gM := (⟨"SelfArranger$Pool", "<init>", "(I)V"⟩, prog_6_method_1_code, 4, none, (some []))
def m_J_min : gM := (⟨"java/lang/Math", "min", "(II)I"⟩, prog_19_method_69_code, 2, (some .int), (some []))
def m_J_max : gM := (⟨"java/lang/Math", "max", "(II)I"⟩, prog_19_method_65_code, 2, (some .int), (some []))
def m_D_init : gM := (⟨"SelfArranger$Ledger", "<init>", "()V"⟩, prog_5_method_1_code, 2, none, (some []))
def m_H_init : gM := (⟨"SelfArranger$Shape", "<init>", "()V"⟩, prog_8_method_1_code, 1, none, (some []))
def m_V_init : gM := (⟨"SelfArranger$Adviser", "<init>", "(LSelfArranger$Table;LSelfArranger$Stretch;LSelfArranger$Ledger;)V"⟩, prog_2_method_1_code, 4, none, (some []))
def m_B_init : gM := (⟨"SelfArranger$Builder", "<init>", "(LSelfArranger$Table;)V"⟩, prog_3_method_1_code, 2, none, (some []))
def m_A_ask : gM := (⟨"SelfArranger", "ask", "()I"⟩, prog_1_method_8_code, 1, (some .int), (some []))
def m_A_takeCheapestWay : gM := (⟨"SelfArranger", "takeCheapestWay", "()V"⟩, prog_1_method_28_code, 1, none, (some []))
def m_W_measure : gM := (⟨"SelfArranger$WayCosts", "measure", "(LSelfArranger$Table;LSelfArranger$Stretch;LSelfArranger$Conditions;)V"⟩, prog_11_method_2_code, 5, none, (some []))
def m_T_heapPages : gM := (⟨"SelfArranger$Table", "heapPages", "()I"⟩, prog_10_method_7_code, 1, (some .int), (some []))
def m_A_groupsOfFour : gM := (⟨"SelfArranger", "groupsOfFour", "(I)I"⟩, prog_1_method_34_code, 1, (some .int), (some []))
def m_C_binds : gM := (⟨"SelfArranger$Conditions", "binds", "(I)Z"⟩, prog_4_method_4_code, 2, (some .boolean), (some []))
def m_S_lay : gM := (⟨"SelfArranger$Stretch", "lay", "(LSelfArranger$Conditions;I)V"⟩, prog_9_method_2_code, 4, none, (some []))
def m_S_place : gM := (⟨"SelfArranger$Stretch", "place", "(LSelfArranger$Conditions;I)V"⟩, prog_9_method_3_code, 3, none, (some []))
def m_S_isBefore : gM := (⟨"SelfArranger$Stretch", "isBefore", "(LSelfArranger$Conditions;I)Z"⟩, prog_9_method_4_code, 5, (some .boolean), (some []))
def m_T_at : gM := (⟨"SelfArranger$Table", "at", "(II)I"⟩, prog_10_method_6_code, 3, (some .int), (some []))
def m_S_isInside : gM := (⟨"SelfArranger$Stretch", "isInside", "(LSelfArranger$Conditions;I)Z"⟩, prog_9_method_5_code, 3, (some .boolean), (some []))
def m_C_fit : gM := (⟨"SelfArranger$Conditions", "fit", "(II)Z"⟩, prog_4_method_5_code, 3, (some .boolean), (some []))
def m_R_append : gM := (⟨"SelfArranger$RowList", "append", "(I)V"⟩, prog_7_method_2_code, 2, none, (some []))
def m_S_pages : gM := (⟨"SelfArranger$Stretch", "pages", "()I"⟩, prog_9_method_9_code, 1, (some .int), (some []))
def m_T_indexHeight : gM := (⟨"SelfArranger$Table", "indexHeight", "()I"⟩, prog_10_method_9_code, 3, (some .int), (some []))
def m_T_indexLeaves : gM := (⟨"SelfArranger$Table", "indexLeaves", "()I"⟩, prog_10_method_8_code, 1, (some .int), (some []))
def m_S_leaves : gM := (⟨"SelfArranger$Stretch", "leaves", "()I"⟩, prog_9_method_8_code, 1, (some .int), (some []))
def m_B_readySet : gM := (⟨"SelfArranger$Builder", "readySet", "()I"⟩, prog_3_method_3_code, 3, (some .int), (some []))
def m_W_cheapest : gM := (⟨"SelfArranger$WayCosts", "cheapest", "(I)I"⟩, prog_11_method_4_code, 5, (some .int), (some []))
def m_W_at : gM := (⟨"SelfArranger$WayCosts", "at", "(I)I"⟩, prog_11_method_3_code, 2, (some .int), (some []))
def m_A_touchPages : gM := (⟨"SelfArranger", "touchPages", "()V"⟩, prog_1_method_29_code, 1, none, (some []))
def m_P_countAnew : gM := (⟨"SelfArranger$Pool", "countAnew", "()V"⟩, prog_6_method_2_code, 1, none, (some []))
def m_A_touchHeap : gM := (⟨"SelfArranger", "touchHeap", "()V"⟩, prog_1_method_30_code, 3, none, (some []))
def m_P_touch : gM := (⟨"SelfArranger$Pool", "touch", "(III)V"⟩, prog_6_method_3_code, 6, none, (some []))
def m_P_frameOf : gM := (⟨"SelfArranger$Pool", "frameOf", "(I)I"⟩, prog_6_method_4_code, 3, (some .int), (some []))
def m_P_freeFrame : gM := (⟨"SelfArranger$Pool", "freeFrame", "()I"⟩, prog_6_method_5_code, 2, (some .int), (some []))
def m_P_moveHand : gM := (⟨"SelfArranger$Pool", "moveHand", "()V"⟩, prog_6_method_6_code, 1, none, (some []))
def m_A_touchIndex : gM := (⟨"SelfArranger", "touchIndex", "(I)V"⟩, prog_1_method_31_code, 5, none, (some []))
def m_S_firstLeaf : gM := (⟨"SelfArranger$Stretch", "firstLeaf", "()I"⟩, prog_9_method_7_code, 1, (some .int), (some []))
def m_A_nodeAbove : gM := (⟨"SelfArranger", "nodeAbove", "(II)I"⟩, prog_1_method_32_code, 4, (some .int), (some []))
def m_S_sort : gM := (⟨"SelfArranger$Stretch", "sort", "()V"⟩, prog_9_method_6_code, 1, none, (some []))
def m_R_sort : gM := (⟨"SelfArranger$RowList", "sort", "(LSelfArranger$Table;II)V"⟩, prog_7_method_3_code, 7, none, (some []))
def m_T_isAfter : gM := (⟨"SelfArranger$Table", "isAfter", "(IIII)Z"⟩, prog_10_method_12_code, 6, (some .boolean), (some []))
def m_T_compare : gM := (⟨"SelfArranger$Table", "compare", "(III)I"⟩, prog_10_method_13_code, 4, (some .int), (some []))
def m_J_compare : gM := (⟨"java/lang/Integer", "compare", "(II)I"⟩, prog_18_method_40_code, 2, (some .int), (some []))
def m_A_findAnswer : gM := (⟨"SelfArranger", "findAnswer", "()V"⟩, prog_1_method_33_code, 2, none, (some []))
def m_C_fitRow : gM := (⟨"SelfArranger$Conditions", "fitRow", "(LSelfArranger$Table;I)Z"⟩, prog_4_method_6_code, 4, (some .boolean), (some []))
def m_D_noteQuery : gM := (⟨"SelfArranger$Ledger", "noteQuery", "(LSelfArranger$Conditions;)V"⟩, prog_5_method_2_code, 3, none, (some []))
def m_C_kindsCode : gM := (⟨"SelfArranger$Conditions", "kindsCode", "()I"⟩, prog_4_method_7_code, 3, (some .int), (some []))
def m_D_placeOf : gM := (⟨"SelfArranger$Ledger", "placeOf", "(I)I"⟩, prog_5_method_3_code, 3, (some .int), (some []))
def m_C_copy : gM := (⟨"SelfArranger$Conditions", "copy", "(LSelfArranger$Conditions;)V"⟩, prog_4_method_3_code, 3, none, (some []))
def m_C_put : gM := (⟨"SelfArranger$Conditions", "put", "(IIII)V"⟩, prog_4_method_2_code, 5, none, (some []))
def m_A_shapes : gM := (⟨"SelfArranger", "shapes", "()I"⟩, prog_1_method_13_code, 1, (some .int), (some []))
def m_A_changes : gM := (⟨"SelfArranger", "changes", "()I"⟩, prog_1_method_15_code, 1, (some .int), (some []))
def m_A_period : gM := (⟨"SelfArranger", "period", "()I"⟩, prog_1_method_16_code, 1, (some .int), (some []))
def m_D_fade : gM := (⟨"SelfArranger$Ledger", "fade", "()V"⟩, prog_5_method_5_code, 4, none, (some []))
def m_D_threeQuarters : gM := (⟨"SelfArranger$Ledger", "threeQuarters", "(I)I"⟩, prog_5_method_6_code, 1, (some .int), (some []))
def m_A_choose : gM := (⟨"SelfArranger", "choose", "()I"⟩, prog_1_method_18_code, 1, (some .int), (some []))
def m_V_measure : gM := (⟨"SelfArranger$Adviser", "measure", "()V"⟩, prog_2_method_2_code, 3, none, (some []))
def m_V_bestSet : gM := (⟨"SelfArranger$Adviser", "bestSet", "(I)I"⟩, prog_2_method_4_code, 10, (some .int), (some []))
def m_T_indexSize : gM := (⟨"SelfArranger$Table", "indexSize", "()I"⟩, prog_10_method_10_code, 5, (some .int), (some []))
def m_V_setCost : gM := (⟨"SelfArranger$Adviser", "setCost", "(I)J"⟩, prog_2_method_3_code, 6, (some .long), (some []))
def m_W_least : gM := (⟨"SelfArranger$WayCosts", "least", "(I)I"⟩, prog_11_method_5_code, 2, (some .int), (some []))
def m_J_bitCount : gM := (⟨"java/lang/Integer", "bitCount", "(I)I"⟩, prog_18_method_49_code, 1, (some .int), (some []))
def m_L_cell : gM := (⟨"SelfArrangerLaw", "cell", "([II)I"⟩, method_2_code, 2, (some .int), (some []))
def m_L_insert : gM := (⟨"SelfArrangerLaw", "insert", "(LSelfArranger;III[J)I"⟩, method_3_code, 6, (some .int), (some [(0, 12, 15, 13), (0, 12, 19, 15)]))
def m_A_insert : gM := (⟨"SelfArranger", "insert", "(III)I"⟩, prog_1_method_2_code, 5, (some .int), (some []))
def m_A_requireValue : gM := (⟨"SelfArranger", "requireValue", "(I)V"⟩, prog_1_method_26_code, 1, none, (some []))
def m_T_isFull : gM := (⟨"SelfArranger$Table", "isFull", "()Z"⟩, prog_10_method_2_code, 1, (some .boolean), (some []))
def m_T_add : gM := (⟨"SelfArranger$Table", "add", "(III)I"⟩, prog_10_method_3_code, 5, (some .int), (some []))
def m_T_put : gM := (⟨"SelfArranger$Table", "put", "(III)V"⟩, prog_10_method_5_code, 4, none, (some []))
def m_A_noteChange : gM := (⟨"SelfArranger", "noteChange", "(I)V"⟩, prog_1_method_27_code, 2, none, (some []))
def m_D_noteChange : gM := (⟨"SelfArranger$Ledger", "noteChange", "()V"⟩, prog_5_method_4_code, 1, none, (some []))
def m_B_noteChange : gM := (⟨"SelfArranger$Builder", "noteChange", "(I)V"⟩, prog_3_method_5_code, 2, none, (some []))
def m_B_isBusy : gM := (⟨"SelfArranger$Builder", "isBusy", "()Z"⟩, prog_3_method_2_code, 1, (some .boolean), (some []))
def m_L_delete : gM := (⟨"SelfArrangerLaw", "delete", "(LSelfArranger;I)I"⟩, method_4_code, 3, (some .int), (some [(0, 5, 8, 21)]))
def m_A_delete : gM := (⟨"SelfArranger", "delete", "(I)V"⟩, prog_1_method_3_code, 2, none, (some []))
def m_A_requireRow : gM := (⟨"SelfArranger", "requireRow", "(I)V"⟩, prog_1_method_23_code, 2, none, (some []))
def m_T_remove : gM := (⟨"SelfArranger$Table", "remove", "(I)V"⟩, prog_10_method_4_code, 2, none, (some []))
def m_L_change : gM := (⟨"SelfArrangerLaw", "change", "(LSelfArranger;III)I"⟩, method_5_code, 5, (some .int), (some [(0, 7, 10, 21), (0, 7, 14, 13)]))
def m_A_change : gM := (⟨"SelfArranger", "change", "(III)V"⟩, prog_1_method_4_code, 4, none, (some []))
def m_A_requireColumn : gM := (⟨"SelfArranger", "requireColumn", "(I)V"⟩, prog_1_method_24_code, 1, none, (some []))
def m_L_value : gM := (⟨"SelfArrangerLaw", "value", "(LSelfArranger;II[J)I"⟩, method_6_code, 5, (some .int), (some [(0, 10, 13, 21)]))
def m_A_value : gM := (⟨"SelfArranger", "value", "(II)I"⟩, prog_1_method_5_code, 3, (some .int), (some []))
def m_L_where : gM := (⟨"SelfArrangerLaw", "where", "(LSelfArranger;IIII)I"⟩, method_7_code, 6, (some .int), (some [(0, 9, 12, 21), (0, 9, 16, 13)]))
def m_A_where : gM := (⟨"SelfArranger", "where", "(IIII)V"⟩, prog_1_method_6_code, 5, none, (some []))
def m_L_order : gM := (⟨"SelfArrangerLaw", "order", "(LSelfArranger;II)I"⟩, method_8_code, 4, (some .int), (some [(0, 6, 9, 21), (0, 6, 12, 13)]))
def m_A_order : gM := (⟨"SelfArranger", "order", "(II)V"⟩, prog_1_method_7_code, 3, none, (some []))
def m_L_answer : gM := (⟨"SelfArrangerLaw", "answer", "(LSelfArranger;I[J)I"⟩, method_9_code, 4, (some .int), (some [(0, 9, 12, 21)]))
def m_A_answer : gM := (⟨"SelfArranger", "answer", "(I)I"⟩, prog_1_method_9_code, 2, (some .int), (some []))
def m_L_last : gM := (⟨"SelfArrangerLaw", "last", "(LSelfArranger;I[J)I"⟩, method_10_code, 4, (some .int), (some [(0, 9, 12, 21)]))
def m_A_last : gM := (⟨"SelfArranger", "last", "(I)I"⟩, prog_1_method_10_code, 2, (some .int), (some []))
def m_L_cost : gM := (⟨"SelfArrangerLaw", "cost", "(LSelfArranger;I[J)I"⟩, method_11_code, 4, (some .int), (some [(0, 9, 12, 21)]))
def m_A_cost : gM := (⟨"SelfArranger", "cost", "(I)I"⟩, prog_1_method_11_code, 2, (some .int), (some []))
def m_A_requireIndex : gM := (⟨"SelfArranger", "requireIndex", "(I)V"⟩, prog_1_method_25_code, 1, none, (some []))
def m_L_index : gM := (⟨"SelfArrangerLaw", "index", "(LSelfArranger;II[J)I"⟩, method_12_code, 5, (some .int), (some [(0, 10, 13, 21)]))
def m_A_index : gM := (⟨"SelfArranger", "index", "(II)I"⟩, prog_1_method_12_code, 3, (some .int), (some []))
def m_T_firstEntry : gM := (⟨"SelfArranger$Table", "firstEntry", "(II)I"⟩, prog_10_method_11_code, 5, (some .int), (some []))
def m_L_shape : gM := (⟨"SelfArrangerLaw", "shape", "(LSelfArranger;II[J)I"⟩, method_13_code, 5, (some .int), (some [(0, 10, 13, 21)]))
def m_A_shape : gM := (⟨"SelfArranger", "shape", "(II)I"⟩, prog_1_method_14_code, 4, (some .int), (some []))
def m_L_budget : gM := (⟨"SelfArrangerLaw", "budget", "(LSelfArranger;I)I"⟩, method_14_code, 3, (some .int), (some [(0, 5, 8, 13)]))
def m_A_budget : gM := (⟨"SelfArranger", "budget", "(I)V"⟩, prog_1_method_17_code, 2, none, (some []))
def m_L_costOf : gM := (⟨"SelfArrangerLaw", "costOf", "(LSelfArranger;I[J)I"⟩, method_15_code, 4, (some .int), (some [(0, 8, 11, 13)]))
def m_A_costOf : gM := (⟨"SelfArranger", "costOf", "(I)J"⟩, prog_1_method_19_code, 2, (some .long), (some []))
def m_L_build : gM := (⟨"SelfArrangerLaw", "build", "(LSelfArranger;I)I"⟩, method_16_code, 3, (some .int), (some [(0, 5, 8, 21), (0, 5, 11, 65)]))
def m_A_build : gM := (⟨"SelfArranger", "build", "(I)V"⟩, prog_1_method_20_code, 2, none, (some []))
def m_B_begin : gM := (⟨"SelfArranger$Builder", "begin", "(I)V"⟩, prog_3_method_4_code, 2, none, (some []))
def m_B_finishIfDone : gM := (⟨"SelfArranger$Builder", "finishIfDone", "()V"⟩, prog_3_method_8_code, 1, none, (some []))
def m_B_left : gM := (⟨"SelfArranger$Builder", "left", "()I"⟩, prog_3_method_7_code, 1, (some .int), (some []))
def m_L_work : gM := (⟨"SelfArrangerLaw", "work", "(LSelfArranger;I[J)I"⟩, method_17_code, 4, (some .int), (some [(0, 9, 12, 13), (0, 9, 15, 65)]))
def m_A_work : gM := (⟨"SelfArranger", "work", "(I)I"⟩, prog_1_method_21_code, 2, (some .int), (some []))
def m_B_handle : gM := (⟨"SelfArranger$Builder", "handle", "(I)I"⟩, prog_3_method_6_code, 3, (some .int), (some []))
def m_L_drop : gM := (⟨"SelfArrangerLaw", "drop", "(LSelfArranger;I[J)I"⟩, method_18_code, 4, (some .int), (some [(0, 16, 19, 21)]))
def m_A_drop : gM := (⟨"SelfArranger", "drop", "(I)Z"⟩, prog_1_method_22_code, 2, (some .boolean), (some []))
def m_B_discard : gM := (⟨"SelfArranger$Builder", "discard", "(I)Z"⟩, prog_3_method_9_code, 3, (some .boolean), (some []))
def m_M_init : gM := (⟨"SelfArrangerModel", "<init>", "(I)V"⟩, prog_13_method_1_code, 3, none, (some []))
def m_M_thrown : gM := (⟨"SelfArrangerModel", "thrown", "()I"⟩, prog_13_method_2_code, 1, (some .int), (some []))
def m_M_insert : gM := (⟨"SelfArrangerModel", "insert", "(III)I"⟩, prog_13_method_8_code, 5, (some .int), (some []))
def m_M_isValue : gM := (⟨"SelfArrangerModel", "isValue", "(I)Z"⟩, prog_13_method_3_code, 1, (some .boolean), (some []))
def m_M_note : gM := (⟨"SelfArrangerModel", "note", "(I)V"⟩, prog_13_method_7_code, 2, none, (some []))
def m_M_delete : gM := (⟨"SelfArrangerModel", "delete", "(I)V"⟩, prog_13_method_9_code, 2, none, (some []))
def m_M_isRow : gM := (⟨"SelfArrangerModel", "isRow", "(I)Z"⟩, prog_13_method_4_code, 2, (some .boolean), (some []))
def m_M_change : gM := (⟨"SelfArrangerModel", "change", "(III)V"⟩, prog_13_method_10_code, 4, none, (some []))
def m_M_isColumn : gM := (⟨"SelfArrangerModel", "isColumn", "(I)Z"⟩, prog_13_method_5_code, 1, (some .boolean), (some []))
def m_M_value : gM := (⟨"SelfArrangerModel", "value", "(II)I"⟩, prog_13_method_11_code, 3, (some .int), (some []))
def m_M_index : gM := (⟨"SelfArrangerModel", "index", "(II)I"⟩, prog_13_method_21_code, 3, (some .int), (some []))
def m_M_isIndex : gM := (⟨"SelfArrangerModel", "isIndex", "(I)Z"⟩, prog_13_method_6_code, 1, (some .boolean), (some []))
def m_M_height : gM := (⟨"SelfArrangerModel", "height", "()I"⟩, prog_13_method_19_code, 3, (some .int), (some []))
def m_M_leaves : gM := (⟨"SelfArrangerModel", "leaves", "()I"⟩, prog_13_method_18_code, 2, (some .int), (some []))
def m_M_live : gM := (⟨"SelfArrangerModel", "live", "()I"⟩, prog_13_method_16_code, 3, (some .int), (some []))
def m_M_byFour : gM := (⟨"SelfArrangerModel", "byFour", "(I)I"⟩, prog_13_method_17_code, 1, (some .int), (some []))
def m_M_sizeOfIndex : gM := (⟨"SelfArrangerModel", "sizeOfIndex", "()I"⟩, prog_13_method_20_code, 3, (some .int), (some []))
def m_M_sort : gM := (⟨"SelfArrangerModel", "sort", "(II)V"⟩, prog_13_method_15_code, 5, none, (some []))
def m_M_isBefore : gM := (⟨"SelfArrangerModel", "isBefore", "(IIII)Z"⟩, prog_13_method_14_code, 7, (some .boolean), (some []))
def m_M_of : gM := (⟨"SelfArrangerModel", "of", "(II)I"⟩, prog_13_method_13_code, 3, (some .int), (some []))
def m_M_cost : gM := (⟨"SelfArrangerModel", "cost", "(I)I"⟩, prog_13_method_33_code, 2, (some .int), (some []))
def m_M_heapPages : gM := (⟨"SelfArrangerModel", "heapPages", "()I"⟩, prog_13_method_12_code, 1, (some .int), (some []))
def m_M_isWay : gM := (⟨"SelfArrangerModel", "isWay", "(II)Z"⟩, prog_13_method_23_code, 3, (some .boolean), (some []))
def m_M_costBy : gM := (⟨"SelfArrangerModel", "costBy", "(II)I"⟩, prog_13_method_30_code, 3, (some .int), (some []))
def m_M_stretch : gM := (⟨"SelfArrangerModel", "stretch", "(II)V"⟩, prog_13_method_27_code, 3, none, (some []))
def m_M_isAhead : gM := (⟨"SelfArrangerModel", "isAhead", "(III)Z"⟩, prog_13_method_25_code, 8, (some .boolean), (some []))
def m_M_countsSecond : gM := (⟨"SelfArrangerModel", "countsSecond", "(II)Z"⟩, prog_13_method_24_code, 4, (some .boolean), (some []))
def m_M_isIn : gM := (⟨"SelfArrangerModel", "isIn", "(III)Z"⟩, prog_13_method_26_code, 4, (some .boolean), (some []))
def m_M_fits : gM := (⟨"SelfArrangerModel", "fits", "(III)Z"⟩, prog_13_method_22_code, 6, (some .boolean), (some []))
def m_M_leavesTouched : gM := (⟨"SelfArrangerModel", "leavesTouched", "()I"⟩, prog_13_method_29_code, 1, (some .int), (some []))
def m_M_where : gM := (⟨"SelfArrangerModel", "where", "(IIII)V"⟩, prog_13_method_34_code, 5, none, (some []))
def m_M_order : gM := (⟨"SelfArrangerModel", "order", "(II)V"⟩, prog_13_method_35_code, 3, none, (some []))
def m_M_ask : gM := (⟨"SelfArrangerModel", "ask", "()I"⟩, prog_13_method_41_code, 3, (some .int), (some []))
def m_M_wayOf : gM := (⟨"SelfArrangerModel", "wayOf", "(II)I"⟩, prog_13_method_31_code, 8, (some .int), (some []))
def m_M_costOfWay : gM := (⟨"SelfArrangerModel", "costOfWay", "(II)I"⟩, prog_13_method_32_code, 3, (some .int), (some []))
def m_M_touch : gM := (⟨"SelfArrangerModel", "touch", "(III)V"⟩, prog_13_method_36_code, 6, none, (some []))
def m_M_touchIndex : gM := (⟨"SelfArrangerModel", "touchIndex", "(I)V"⟩, prog_13_method_37_code, 7, none, (some []))
def m_M_firstLeaf : gM := (⟨"SelfArrangerModel", "firstLeaf", "()I"⟩, prog_13_method_28_code, 2, (some .int), (some []))
def m_M_remember : gM := (⟨"SelfArrangerModel", "remember", "()V"⟩, prog_13_method_40_code, 2, none, (some []))
def m_M_findShape : gM := (⟨"SelfArrangerModel", "findShape", "()I"⟩, prog_13_method_38_code, 2, (some .int), (some []))
def m_M_copyShape : gM := (⟨"SelfArrangerModel", "copyShape", "(II)V"⟩, prog_13_method_39_code, 4, none, (some []))
def m_M_answer : gM := (⟨"SelfArrangerModel", "answer", "(I)I"⟩, prog_13_method_42_code, 2, (some .int), (some []))
def m_M_last : gM := (⟨"SelfArrangerModel", "last", "(I)I"⟩, prog_13_method_43_code, 2, (some .int), (some []))
def m_M_shapes : gM := (⟨"SelfArrangerModel", "shapes", "()I"⟩, prog_13_method_44_code, 1, (some .int), (some []))
def m_M_shape : gM := (⟨"SelfArrangerModel", "shape", "(II)I"⟩, prog_13_method_45_code, 4, (some .int), (some []))
def m_M_changes : gM := (⟨"SelfArrangerModel", "changes", "()I"⟩, prog_13_method_46_code, 1, (some .int), (some []))
def m_M_period : gM := (⟨"SelfArrangerModel", "period", "()I"⟩, prog_13_method_47_code, 4, (some .int), (some []))
def m_M_budget : gM := (⟨"SelfArrangerModel", "budget", "(I)V"⟩, prog_13_method_48_code, 2, none, (some []))
def m_M_choose : gM := (⟨"SelfArrangerModel", "choose", "()I"⟩, prog_13_method_52_code, 8, (some .int), (some []))
def m_M_findCosts : gM := (⟨"SelfArrangerModel", "findCosts", "()V"⟩, prog_13_method_49_code, 3, none, (some []))
def m_M_sumOf : gM := (⟨"SelfArrangerModel", "sumOf", "(I)J"⟩, prog_13_method_51_code, 7, (some .long), (some []))
def m_M_members : gM := (⟨"SelfArrangerModel", "members", "(I)I"⟩, prog_13_method_50_code, 3, (some .int), (some []))
def m_M_costOf : gM := (⟨"SelfArrangerModel", "costOf", "(I)J"⟩, prog_13_method_53_code, 2, (some .long), (some []))
def m_M_build : gM := (⟨"SelfArrangerModel", "build", "(I)V"⟩, prog_13_method_55_code, 2, none, (some []))
def m_M_settle : gM := (⟨"SelfArrangerModel", "settle", "()I"⟩, prog_13_method_56_code, 2, (some .int), (some []))
def m_M_leftToDo : gM := (⟨"SelfArrangerModel", "leftToDo", "()I"⟩, prog_13_method_54_code, 1, (some .int), (some []))
def m_M_work : gM := (⟨"SelfArrangerModel", "work", "(I)I"⟩, prog_13_method_57_code, 3, (some .int), (some []))
def m_M_drop : gM := (⟨"SelfArrangerModel", "drop", "(I)Z"⟩, prog_13_method_58_code, 2, (some .boolean), (some []))
def m_L_law : gM := (⟨"SelfArrangerLaw", "law", "([I)Z"⟩, code, 8, (some .boolean), none)
def T_A : u_T := fun k => match k with
  | 0 => ("SelfArranger", "table", "LSelfArranger$Table;", true)
  | 1 => ("SelfArranger", "conditions", "LSelfArranger$Conditions;", true)
  | 2 => ("SelfArranger", "stretch", "LSelfArranger$Stretch;", true)
  | 3 => ("SelfArranger", "wayCosts", "LSelfArranger$WayCosts;", true)
  | 4 => ("SelfArranger", "pool", "LSelfArranger$Pool;", true)
  | 5 => ("SelfArranger", "ledger", "LSelfArranger$Ledger;", true)
  | 6 => ("SelfArranger", "adviser", "LSelfArranger$Adviser;", true)
  | 7 => ("SelfArranger", "builder", "LSelfArranger$Builder;", true)
  | 8 => ("SelfArranger", "found", "LSelfArranger$RowList;", true)
  | 9 => ("SelfArranger", "orderColumn", "I", false)
  | 10 => ("SelfArranger", "rowLimit", "I", false)
  | 11 => ("SelfArranger", "budgetPages", "I", false)
  | 12 => ("SelfArranger", "lastWay", "I", false)
  | _ => ("SelfArranger", "lastCost", "I", false)
def ty_A : Nat → FieldType := fun k => match k with
  | 0 => (.object "SelfArranger$Table")
  | 1 => (.object "SelfArranger$Conditions")
  | 2 => (.object "SelfArranger$Stretch")
  | 3 => (.object "SelfArranger$WayCosts")
  | 4 => (.object "SelfArranger$Pool")
  | 5 => (.object "SelfArranger$Ledger")
  | 6 => (.object "SelfArranger$Adviser")
  | 7 => (.object "SelfArranger$Builder")
  | 8 => (.object "SelfArranger$RowList")
  | 9 => .int
  | 10 => .int
  | 11 => .int
  | 12 => .int
  | _ => .int
theorem nm_A : ∀ a, a < 14 → ∀ b, b < 14 → a ≠ b → (T_A a).2.1 ≠ (T_A b).2.1 := by decide +kernel
theorem tyok_A : ∀ k, k < 14 → parseFieldDescriptor (T_A k).2.2.1 = some (ty_A k) := by decide +kernel
def T_T : u_T := fun k => match k with
  | 0 => ("SelfArranger$Table", "values", "[I", true)
  | 1 => ("SelfArranger$Table", "there", "[Z", true)
  | 2 => ("SelfArranger$Table", "inserted", "I", false)
  | _ => ("SelfArranger$Table", "rowsThere", "I", false)
def ty_T : Nat → FieldType := fun k => match k with
  | 0 => (.array .int)
  | 1 => (.array .boolean)
  | 2 => .int
  | _ => .int
theorem nm_T : ∀ a, a < 4 → ∀ b, b < 4 → a ≠ b → (T_T a).2.1 ≠ (T_T b).2.1 := by decide +kernel
theorem tyok_T : ∀ k, k < 4 → parseFieldDescriptor (T_T k).2.2.1 = some (ty_T k) := by decide +kernel
def T_C : u_T := fun k => match k with
  | 0 => ("SelfArranger$Conditions", "kinds", "[I", true)
  | 1 => ("SelfArranger$Conditions", "froms", "[I", true)
  | _ => ("SelfArranger$Conditions", "tos", "[I", true)
def ty_C : Nat → FieldType := fun k => match k with
  | 0 => (.array .int)
  | 1 => (.array .int)
  | _ => (.array .int)
theorem nm_C : ∀ a, a < 3 → ∀ b, b < 3 → a ≠ b → (T_C a).2.1 ≠ (T_C b).2.1 := by decide +kernel
theorem tyok_C : ∀ k, k < 3 → parseFieldDescriptor (T_C k).2.2.1 = some (ty_C k) := by decide +kernel
def T_S : u_T := fun k => match k with
  | 0 => ("SelfArranger$Stretch", "table", "LSelfArranger$Table;", true)
  | 1 => ("SelfArranger$Stretch", "entries", "LSelfArranger$RowList;", true)
  | 2 => ("SelfArranger$Stretch", "first", "I", false)
  | 3 => ("SelfArranger$Stretch", "second", "I", false)
  | 4 => ("SelfArranger$Stretch", "secondCounts", "Z", false)
  | _ => ("SelfArranger$Stretch", "before", "I", false)
def ty_S : Nat → FieldType := fun k => match k with
  | 0 => (.object "SelfArranger$Table")
  | 1 => (.object "SelfArranger$RowList")
  | 2 => .int
  | 3 => .int
  | 4 => .boolean
  | _ => .int
theorem nm_S : ∀ a, a < 6 → ∀ b, b < 6 → a ≠ b → (T_S a).2.1 ≠ (T_S b).2.1 := by decide +kernel
theorem tyok_S : ∀ k, k < 6 → parseFieldDescriptor (T_S k).2.2.1 = some (ty_S k) := by decide +kernel
def T_W : u_T := fun k => match k with
  | 0 => ("SelfArranger$WayCosts", "byIndex", "[I", true)
  | _ => ("SelfArranger$WayCosts", "heap", "I", false)
def ty_W : Nat → FieldType := fun k => match k with
  | 0 => (.array .int)
  | _ => .int
theorem nm_W : ∀ a, a < 2 → ∀ b, b < 2 → a ≠ b → (T_W a).2.1 ≠ (T_W b).2.1 := by decide +kernel
theorem tyok_W : ∀ k, k < 2 → parseFieldDescriptor (T_W k).2.2.1 = some (ty_W k) := by decide +kernel
def T_P : u_T := fun k => match k with
  | 0 => ("SelfArranger$Pool", "pages", "[I", true)
  | 1 => ("SelfArranger$Pool", "marked", "[Z", true)
  | 2 => ("SelfArranger$Pool", "hand", "I", false)
  | 3 => ("SelfArranger$Pool", "touched", "I", false)
  | _ => ("SelfArranger$Pool", "misses", "I", false)
def ty_P : Nat → FieldType := fun k => match k with
  | 0 => (.array .int)
  | 1 => (.array .boolean)
  | 2 => .int
  | 3 => .int
  | _ => .int
theorem nm_P : ∀ a, a < 5 → ∀ b, b < 5 → a ≠ b → (T_P a).2.1 ≠ (T_P b).2.1 := by decide +kernel
theorem tyok_P : ∀ k, k < 5 → parseFieldDescriptor (T_P k).2.2.1 = some (ty_P k) := by decide +kernel
def T_D : u_T := fun k => match k with
  | 0 => ("SelfArranger$Ledger", "shapes", "[LSelfArranger$Shape;", true)
  | 1 => ("SelfArranger$Ledger", "count", "I", false)
  | _ => ("SelfArranger$Ledger", "changesWeight", "I", false)
def ty_D : Nat → FieldType := fun k => match k with
  | 0 => (.array (.object "SelfArranger$Shape"))
  | 1 => .int
  | _ => .int
theorem nm_D : ∀ a, a < 3 → ∀ b, b < 3 → a ≠ b → (T_D a).2.1 ≠ (T_D b).2.1 := by decide +kernel
theorem tyok_D : ∀ k, k < 3 → parseFieldDescriptor (T_D k).2.2.1 = some (ty_D k) := by decide +kernel
def T_V : u_T := fun k => match k with
  | 0 => ("SelfArranger$Adviser", "table", "LSelfArranger$Table;", true)
  | 1 => ("SelfArranger$Adviser", "stretch", "LSelfArranger$Stretch;", true)
  | _ => ("SelfArranger$Adviser", "ledger", "LSelfArranger$Ledger;", true)
def ty_V : Nat → FieldType := fun k => match k with
  | 0 => (.object "SelfArranger$Table")
  | 1 => (.object "SelfArranger$Stretch")
  | _ => (.object "SelfArranger$Ledger")
theorem nm_V : ∀ a, a < 3 → ∀ b, b < 3 → a ≠ b → (T_V a).2.1 ≠ (T_V b).2.1 := by decide +kernel
theorem tyok_V : ∀ k, k < 3 → parseFieldDescriptor (T_V k).2.2.1 = some (ty_V k) := by decide +kernel
def T_B : u_T := fun k => match k with
  | 0 => ("SelfArranger$Builder", "table", "LSelfArranger$Table;", true)
  | 1 => ("SelfArranger$Builder", "states", "[I", true)
  | 2 => ("SelfArranger$Builder", "building", "I", false)
  | 3 => ("SelfArranger$Builder", "handled", "I", false)
  | _ => ("SelfArranger$Builder", "sideLength", "I", false)
def ty_B : Nat → FieldType := fun k => match k with
  | 0 => (.object "SelfArranger$Table")
  | 1 => (.array .int)
  | 2 => .int
  | 3 => .int
  | _ => .int
theorem nm_B : ∀ a, a < 5 → ∀ b, b < 5 → a ≠ b → (T_B a).2.1 ≠ (T_B b).2.1 := by decide +kernel
theorem tyok_B : ∀ k, k < 5 → parseFieldDescriptor (T_B k).2.2.1 = some (ty_B k) := by decide +kernel
def T_R : u_T := fun k => match k with
  | 0 => ("SelfArranger$RowList", "rows", "[I", true)
  | _ => ("SelfArranger$RowList", "count", "I", false)
def ty_R : Nat → FieldType := fun k => match k with
  | 0 => (.array .int)
  | _ => .int
theorem nm_R : ∀ a, a < 2 → ∀ b, b < 2 → a ≠ b → (T_R a).2.1 ≠ (T_R b).2.1 := by decide +kernel
theorem tyok_R : ∀ k, k < 2 → parseFieldDescriptor (T_R k).2.2.1 = some (ty_R k) := by decide +kernel
def T_H : u_T := fun k => match k with
  | 0 => ("SelfArranger$Shape", "kept", "LSelfArranger$Conditions;", true)
  | 1 => ("SelfArranger$Shape", "wayCosts", "LSelfArranger$WayCosts;", true)
  | _ => ("SelfArranger$Shape", "weight", "I", false)
def ty_H : Nat → FieldType := fun k => match k with
  | 0 => (.object "SelfArranger$Conditions")
  | 1 => (.object "SelfArranger$WayCosts")
  | _ => .int
theorem nm_H : ∀ a, a < 3 → ∀ b, b < 3 → a ≠ b → (T_H a).2.1 ≠ (T_H b).2.1 := by decide +kernel
theorem tyok_H : ∀ k, k < 3 → parseFieldDescriptor (T_H k).2.2.1 = some (ty_H k) := by decide +kernel
def T_M : u_T := fun k => match k with
  | 0 => ("SelfArrangerModel", "thrown", "I", false)
  | 1 => ("SelfArrangerModel", "inserted", "I", false)
  | 2 => ("SelfArrangerModel", "there", "[Z", true)
  | 3 => ("SelfArrangerModel", "values", "[I", true)
  | 4 => ("SelfArrangerModel", "firstColumn", "[I", true)
  | 5 => ("SelfArrangerModel", "secondColumn", "[I", true)
  | 6 => ("SelfArrangerModel", "state", "[I", true)
  | 7 => ("SelfArrangerModel", "building", "I", false)
  | 8 => ("SelfArrangerModel", "handled", "I", false)
  | 9 => ("SelfArrangerModel", "side", "I", false)
  | 10 => ("SelfArrangerModel", "kinds", "[I", true)
  | 11 => ("SelfArrangerModel", "froms", "[I", true)
  | 12 => ("SelfArrangerModel", "tos", "[I", true)
  | 13 => ("SelfArrangerModel", "orderColumn", "I", false)
  | 14 => ("SelfArrangerModel", "limit", "I", false)
  | 15 => ("SelfArrangerModel", "shapes", "I", false)
  | 16 => ("SelfArrangerModel", "weights", "[I", true)
  | 17 => ("SelfArrangerModel", "changes", "I", false)
  | 18 => ("SelfArrangerModel", "budget", "I", false)
  | 19 => ("SelfArrangerModel", "frames", "I", true)
  | 20 => ("SelfArrangerModel", "pages", "[I", true)
  | 21 => ("SelfArrangerModel", "marked", "[Z", true)
  | 22 => ("SelfArrangerModel", "hand", "I", false)
  | 23 => ("SelfArrangerModel", "answer", "[I", true)
  | 24 => ("SelfArrangerModel", "answered", "I", false)
  | 25 => ("SelfArrangerModel", "lastWay", "I", false)
  | 26 => ("SelfArrangerModel", "lastCost", "I", false)
  | 27 => ("SelfArrangerModel", "touches", "I", false)
  | 28 => ("SelfArrangerModel", "misses", "I", false)
  | 29 => ("SelfArrangerModel", "entries", "[I", true)
  | 30 => ("SelfArrangerModel", "size", "I", false)
  | 31 => ("SelfArrangerModel", "begin", "I", false)
  | 32 => ("SelfArrangerModel", "end", "I", false)
  | _ => ("SelfArrangerModel", "costs", "[I", true)
def ty_M : Nat → FieldType := fun k => match k with
  | 0 => .int
  | 1 => .int
  | 2 => (.array .boolean)
  | 3 => (.array .int)
  | 4 => (.array .int)
  | 5 => (.array .int)
  | 6 => (.array .int)
  | 7 => .int
  | 8 => .int
  | 9 => .int
  | 10 => (.array .int)
  | 11 => (.array .int)
  | 12 => (.array .int)
  | 13 => .int
  | 14 => .int
  | 15 => .int
  | 16 => (.array .int)
  | 17 => .int
  | 18 => .int
  | 19 => .int
  | 20 => (.array .int)
  | 21 => (.array .boolean)
  | 22 => .int
  | 23 => (.array .int)
  | 24 => .int
  | 25 => .int
  | 26 => .int
  | 27 => .int
  | 28 => .int
  | 29 => (.array .int)
  | 30 => .int
  | 31 => .int
  | 32 => .int
  | _ => (.array .int)
theorem nm_M : ∀ a, a < 34 → ∀ b, b < 34 → a ≠ b → (T_M a).2.1 ≠ (T_M b).2.1 := by decide +kernel
theorem tyok_M : ∀ k, k < 34 → parseFieldDescriptor (T_M k).2.2.1 = some (ty_M k) := by decide +kernel
abbrev vwCl : List vw_C := [("SelfArranger", T_A, 14), ("SelfArranger$Table", T_T, 4), ("SelfArranger$Conditions", T_C, 3), ("SelfArranger$Stretch", T_S, 6), ("SelfArranger$WayCosts", T_W, 2), ("SelfArranger$Pool", T_P, 5), ("SelfArranger$Ledger", T_D, 3), ("SelfArranger$Adviser", T_V, 3), ("SelfArranger$Builder", T_B, 5), ("SelfArranger$RowList", T_R, 2), ("SelfArranger$Shape", T_H, 3), ("SelfArrangerModel", T_M, 34)]
