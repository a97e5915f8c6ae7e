section
-- ===== PART A: goes FIRST, ahead of the names: the tables' words, and 'selects' of the private methods out of them =====
/-- a private method of a class that the tables say can be made, by its rows of tables_1 -/
def lw_okq (q : MethodName × Nat) : Prop := (q.1.cls ≠ "java/lang/invoke/MethodHandle" ∧ q.1.cls ≠ "java/lang/invoke/VarHandle") ∧ Cond.instantiable q.1.cls q.2 ∈ tables_1 ∧ Cond.privateMethod q.1 ∈ tables_1 ∧ Cond.instanceMethod q.1 ∈ tables_1
theorem lw_p0 : lw_okq (⟨"SelfArranger", "takeCheapestWay", "()V"⟩, 14) := ⟨⟨by decide +kernel, by decide +kernel⟩, List.mem_of_getElem? (i := 23) (by decide +kernel), List.mem_of_getElem? (i := 298) (by decide +kernel), List.mem_of_getElem? (i := 299) (by decide +kernel)⟩
theorem lw_p1 : lw_okq (⟨"SelfArranger$WayCosts", "measure", "(LSelfArranger$Table;LSelfArranger$Stretch;LSelfArranger$Conditions;)V"⟩, 2) := ⟨⟨by decide +kernel, by decide +kernel⟩, List.mem_of_getElem? (i := 117) (by decide +kernel), List.mem_of_getElem? (i := 302) (by decide +kernel), List.mem_of_getElem? (i := 303) (by decide +kernel)⟩
theorem lw_p2 : lw_okq (⟨"SelfArranger$Table", "heapPages", "()I"⟩, 4) := ⟨⟨by decide +kernel, by decide +kernel⟩, List.mem_of_getElem? (i := 31) (by decide +kernel), List.mem_of_getElem? (i := 306) (by decide +kernel), List.mem_of_getElem? (i := 307) (by decide +kernel)⟩
theorem lw_p3 : lw_okq (⟨"SelfArranger$Conditions", "binds", "(I)Z"⟩, 3) := ⟨⟨by decide +kernel, by decide +kernel⟩, List.mem_of_getElem? (i := 57) (by decide +kernel), List.mem_of_getElem? (i := 315) (by decide +kernel), List.mem_of_getElem? (i := 316) (by decide +kernel)⟩
theorem lw_p4 : lw_okq (⟨"SelfArranger$Stretch", "lay", "(LSelfArranger$Conditions;I)V"⟩, 6) := ⟨⟨by decide +kernel, by decide +kernel⟩, List.mem_of_getElem? (i := 75) (by decide +kernel), List.mem_of_getElem? (i := 319) (by decide +kernel), List.mem_of_getElem? (i := 320) (by decide +kernel)⟩
theorem lw_p5 : lw_okq (⟨"SelfArranger$Stretch", "place", "(LSelfArranger$Conditions;I)V"⟩, 6) := ⟨⟨by decide +kernel, by decide +kernel⟩, List.mem_of_getElem? (i := 75) (by decide +kernel), List.mem_of_getElem? (i := 327) (by decide +kernel), List.mem_of_getElem? (i := 328) (by decide +kernel)⟩
theorem lw_p6 : lw_okq (⟨"SelfArranger$Stretch", "isBefore", "(LSelfArranger$Conditions;I)Z"⟩, 6) := ⟨⟨by decide +kernel, by decide +kernel⟩, List.mem_of_getElem? (i := 75) (by decide +kernel), List.mem_of_getElem? (i := 331) (by decide +kernel), List.mem_of_getElem? (i := 332) (by decide +kernel)⟩
theorem lw_p7 : lw_okq (⟨"SelfArranger$Table", "at", "(II)I"⟩, 4) := ⟨⟨by decide +kernel, by decide +kernel⟩, List.mem_of_getElem? (i := 31) (by decide +kernel), List.mem_of_getElem? (i := 335) (by decide +kernel), List.mem_of_getElem? (i := 336) (by decide +kernel)⟩
theorem lw_p8 : lw_okq (⟨"SelfArranger$Stretch", "isInside", "(LSelfArranger$Conditions;I)Z"⟩, 6) := ⟨⟨by decide +kernel, by decide +kernel⟩, List.mem_of_getElem? (i := 75) (by decide +kernel), List.mem_of_getElem? (i := 339) (by decide +kernel), List.mem_of_getElem? (i := 340) (by decide +kernel)⟩
theorem lw_p9 : lw_okq (⟨"SelfArranger$Conditions", "fit", "(II)Z"⟩, 3) := ⟨⟨by decide +kernel, by decide +kernel⟩, List.mem_of_getElem? (i := 57) (by decide +kernel), List.mem_of_getElem? (i := 343) (by decide +kernel), List.mem_of_getElem? (i := 344) (by decide +kernel)⟩
theorem lw_p10 : lw_okq (⟨"SelfArranger$RowList", "append", "(I)V"⟩, 2) := ⟨⟨by decide +kernel, by decide +kernel⟩, List.mem_of_getElem? (i := 81) (by decide +kernel), List.mem_of_getElem? (i := 347) (by decide +kernel), List.mem_of_getElem? (i := 348) (by decide +kernel)⟩
theorem lw_p11 : lw_okq (⟨"SelfArranger$Stretch", "pages", "()I"⟩, 6) := ⟨⟨by decide +kernel, by decide +kernel⟩, List.mem_of_getElem? (i := 75) (by decide +kernel), List.mem_of_getElem? (i := 351) (by decide +kernel), List.mem_of_getElem? (i := 352) (by decide +kernel)⟩
theorem lw_p12 : lw_okq (⟨"SelfArranger$Table", "indexHeight", "()I"⟩, 4) := ⟨⟨by decide +kernel, by decide +kernel⟩, List.mem_of_getElem? (i := 31) (by decide +kernel), List.mem_of_getElem? (i := 355) (by decide +kernel), List.mem_of_getElem? (i := 356) (by decide +kernel)⟩
theorem lw_p13 : lw_okq (⟨"SelfArranger$Table", "indexLeaves", "()I"⟩, 4) := ⟨⟨by decide +kernel, by decide +kernel⟩, List.mem_of_getElem? (i := 31) (by decide +kernel), List.mem_of_getElem? (i := 359) (by decide +kernel), List.mem_of_getElem? (i := 360) (by decide +kernel)⟩
theorem lw_p14 : lw_okq (⟨"SelfArranger$Stretch", "leaves", "()I"⟩, 6) := ⟨⟨by decide +kernel, by decide +kernel⟩, List.mem_of_getElem? (i := 75) (by decide +kernel), List.mem_of_getElem? (i := 364) (by decide +kernel), List.mem_of_getElem? (i := 365) (by decide +kernel)⟩
theorem lw_p15 : lw_okq (⟨"SelfArranger$Builder", "readySet", "()I"⟩, 5) := ⟨⟨by decide +kernel, by decide +kernel⟩, List.mem_of_getElem? (i := 226) (by decide +kernel), List.mem_of_getElem? (i := 368) (by decide +kernel), List.mem_of_getElem? (i := 369) (by decide +kernel)⟩
def lw_privs_1 : List (MethodName × Nat) := [(⟨"SelfArranger", "takeCheapestWay", "()V"⟩, 14), (⟨"SelfArranger$WayCosts", "measure", "(LSelfArranger$Table;LSelfArranger$Stretch;LSelfArranger$Conditions;)V"⟩, 2), (⟨"SelfArranger$Table", "heapPages", "()I"⟩, 4), (⟨"SelfArranger$Conditions", "binds", "(I)Z"⟩, 3), (⟨"SelfArranger$Stretch", "lay", "(LSelfArranger$Conditions;I)V"⟩, 6), (⟨"SelfArranger$Stretch", "place", "(LSelfArranger$Conditions;I)V"⟩, 6), (⟨"SelfArranger$Stretch", "isBefore", "(LSelfArranger$Conditions;I)Z"⟩, 6), (⟨"SelfArranger$Table", "at", "(II)I"⟩, 4), (⟨"SelfArranger$Stretch", "isInside", "(LSelfArranger$Conditions;I)Z"⟩, 6), (⟨"SelfArranger$Conditions", "fit", "(II)Z"⟩, 3), (⟨"SelfArranger$RowList", "append", "(I)V"⟩, 2), (⟨"SelfArranger$Stretch", "pages", "()I"⟩, 6), (⟨"SelfArranger$Table", "indexHeight", "()I"⟩, 4), (⟨"SelfArranger$Table", "indexLeaves", "()I"⟩, 4), (⟨"SelfArranger$Stretch", "leaves", "()I"⟩, 6), (⟨"SelfArranger$Builder", "readySet", "()I"⟩, 5)]
theorem lw_r1 : ∀ q ∈ lw_privs_1, lw_okq q := List.forall_mem_cons.mpr ⟨lw_p0, List.forall_mem_cons.mpr ⟨lw_p1, List.forall_mem_cons.mpr ⟨lw_p2, List.forall_mem_cons.mpr ⟨lw_p3, List.forall_mem_cons.mpr ⟨lw_p4, List.forall_mem_cons.mpr ⟨lw_p5, List.forall_mem_cons.mpr ⟨lw_p6, List.forall_mem_cons.mpr ⟨lw_p7, List.forall_mem_cons.mpr ⟨lw_p8, List.forall_mem_cons.mpr ⟨lw_p9, List.forall_mem_cons.mpr ⟨lw_p10, List.forall_mem_cons.mpr ⟨lw_p11, List.forall_mem_cons.mpr ⟨lw_p12, List.forall_mem_cons.mpr ⟨lw_p13, List.forall_mem_cons.mpr ⟨lw_p14, List.forall_mem_cons.mpr ⟨lw_p15, fun _ h => absurd h List.not_mem_nil⟩⟩⟩⟩⟩⟩⟩⟩⟩⟩⟩⟩⟩⟩⟩⟩
theorem lw_p16 : lw_okq (⟨"SelfArranger$WayCosts", "cheapest", "(I)I"⟩, 2) := ⟨⟨by decide +kernel, by decide +kernel⟩, List.mem_of_getElem? (i := 117) (by decide +kernel), List.mem_of_getElem? (i := 372) (by decide +kernel), List.mem_of_getElem? (i := 373) (by decide +kernel)⟩
theorem lw_p17 : lw_okq (⟨"SelfArranger$WayCosts", "at", "(I)I"⟩, 2) := ⟨⟨by decide +kernel, by decide +kernel⟩, List.mem_of_getElem? (i := 117) (by decide +kernel), List.mem_of_getElem? (i := 376) (by decide +kernel), List.mem_of_getElem? (i := 377) (by decide +kernel)⟩
theorem lw_p18 : lw_okq (⟨"SelfArranger", "touchPages", "()V"⟩, 14) := ⟨⟨by decide +kernel, by decide +kernel⟩, List.mem_of_getElem? (i := 23) (by decide +kernel), List.mem_of_getElem? (i := 381) (by decide +kernel), List.mem_of_getElem? (i := 382) (by decide +kernel)⟩
theorem lw_p19 : lw_okq (⟨"SelfArranger$Pool", "countAnew", "()V"⟩, 5) := ⟨⟨by decide +kernel, by decide +kernel⟩, List.mem_of_getElem? (i := 130) (by decide +kernel), List.mem_of_getElem? (i := 385) (by decide +kernel), List.mem_of_getElem? (i := 386) (by decide +kernel)⟩
theorem lw_p20 : lw_okq (⟨"SelfArranger", "touchHeap", "()V"⟩, 14) := ⟨⟨by decide +kernel, by decide +kernel⟩, List.mem_of_getElem? (i := 23) (by decide +kernel), List.mem_of_getElem? (i := 389) (by decide +kernel), List.mem_of_getElem? (i := 390) (by decide +kernel)⟩
theorem lw_p21 : lw_okq (⟨"SelfArranger$Pool", "touch", "(III)V"⟩, 5) := ⟨⟨by decide +kernel, by decide +kernel⟩, List.mem_of_getElem? (i := 130) (by decide +kernel), List.mem_of_getElem? (i := 394) (by decide +kernel), List.mem_of_getElem? (i := 395) (by decide +kernel)⟩
theorem lw_p22 : lw_okq (⟨"SelfArranger$Pool", "frameOf", "(I)I"⟩, 5) := ⟨⟨by decide +kernel, by decide +kernel⟩, List.mem_of_getElem? (i := 130) (by decide +kernel), List.mem_of_getElem? (i := 398) (by decide +kernel), List.mem_of_getElem? (i := 399) (by decide +kernel)⟩
theorem lw_p23 : lw_okq (⟨"SelfArranger$Pool", "freeFrame", "()I"⟩, 5) := ⟨⟨by decide +kernel, by decide +kernel⟩, List.mem_of_getElem? (i := 130) (by decide +kernel), List.mem_of_getElem? (i := 402) (by decide +kernel), List.mem_of_getElem? (i := 403) (by decide +kernel)⟩
theorem lw_p24 : lw_okq (⟨"SelfArranger$Pool", "moveHand", "()V"⟩, 5) := ⟨⟨by decide +kernel, by decide +kernel⟩, List.mem_of_getElem? (i := 130) (by decide +kernel), List.mem_of_getElem? (i := 406) (by decide +kernel), List.mem_of_getElem? (i := 407) (by decide +kernel)⟩
theorem lw_p25 : lw_okq (⟨"SelfArranger", "touchIndex", "(I)V"⟩, 14) := ⟨⟨by decide +kernel, by decide +kernel⟩, List.mem_of_getElem? (i := 23) (by decide +kernel), List.mem_of_getElem? (i := 410) (by decide +kernel), List.mem_of_getElem? (i := 411) (by decide +kernel)⟩
theorem lw_p26 : lw_okq (⟨"SelfArranger$Stretch", "firstLeaf", "()I"⟩, 6) := ⟨⟨by decide +kernel, by decide +kernel⟩, List.mem_of_getElem? (i := 75) (by decide +kernel), List.mem_of_getElem? (i := 415) (by decide +kernel), List.mem_of_getElem? (i := 416) (by decide +kernel)⟩
theorem lw_p27 : lw_okq (⟨"SelfArranger$Stretch", "sort", "()V"⟩, 6) := ⟨⟨by decide +kernel, by decide +kernel⟩, List.mem_of_getElem? (i := 75) (by decide +kernel), List.mem_of_getElem? (i := 426) (by decide +kernel), List.mem_of_getElem? (i := 427) (by decide +kernel)⟩
theorem lw_p28 : lw_okq (⟨"SelfArranger$RowList", "sort", "(LSelfArranger$Table;II)V"⟩, 2) := ⟨⟨by decide +kernel, by decide +kernel⟩, List.mem_of_getElem? (i := 81) (by decide +kernel), List.mem_of_getElem? (i := 430) (by decide +kernel), List.mem_of_getElem? (i := 431) (by decide +kernel)⟩
theorem lw_p29 : lw_okq (⟨"SelfArranger$Table", "isAfter", "(IIII)Z"⟩, 4) := ⟨⟨by decide +kernel, by decide +kernel⟩, List.mem_of_getElem? (i := 31) (by decide +kernel), List.mem_of_getElem? (i := 434) (by decide +kernel), List.mem_of_getElem? (i := 435) (by decide +kernel)⟩
theorem lw_p30 : lw_okq (⟨"SelfArranger$Table", "compare", "(III)I"⟩, 4) := ⟨⟨by decide +kernel, by decide +kernel⟩, List.mem_of_getElem? (i := 31) (by decide +kernel), List.mem_of_getElem? (i := 438) (by decide +kernel), List.mem_of_getElem? (i := 439) (by decide +kernel)⟩
theorem lw_p31 : lw_okq (⟨"SelfArranger", "findAnswer", "()V"⟩, 14) := ⟨⟨by decide +kernel, by decide +kernel⟩, List.mem_of_getElem? (i := 23) (by decide +kernel), List.mem_of_getElem? (i := 446) (by decide +kernel), List.mem_of_getElem? (i := 447) (by decide +kernel)⟩
def lw_privs_2 : List (MethodName × Nat) := [(⟨"SelfArranger$WayCosts", "cheapest", "(I)I"⟩, 2), (⟨"SelfArranger$WayCosts", "at", "(I)I"⟩, 2), (⟨"SelfArranger", "touchPages", "()V"⟩, 14), (⟨"SelfArranger$Pool", "countAnew", "()V"⟩, 5), (⟨"SelfArranger", "touchHeap", "()V"⟩, 14), (⟨"SelfArranger$Pool", "touch", "(III)V"⟩, 5), (⟨"SelfArranger$Pool", "frameOf", "(I)I"⟩, 5), (⟨"SelfArranger$Pool", "freeFrame", "()I"⟩, 5), (⟨"SelfArranger$Pool", "moveHand", "()V"⟩, 5), (⟨"SelfArranger", "touchIndex", "(I)V"⟩, 14), (⟨"SelfArranger$Stretch", "firstLeaf", "()I"⟩, 6), (⟨"SelfArranger$Stretch", "sort", "()V"⟩, 6), (⟨"SelfArranger$RowList", "sort", "(LSelfArranger$Table;II)V"⟩, 2), (⟨"SelfArranger$Table", "isAfter", "(IIII)Z"⟩, 4), (⟨"SelfArranger$Table", "compare", "(III)I"⟩, 4), (⟨"SelfArranger", "findAnswer", "()V"⟩, 14)]
theorem lw_r2 : ∀ q ∈ lw_privs_2, lw_okq q := List.forall_mem_cons.mpr ⟨lw_p16, List.forall_mem_cons.mpr ⟨lw_p17, List.forall_mem_cons.mpr ⟨lw_p18, List.forall_mem_cons.mpr ⟨lw_p19, List.forall_mem_cons.mpr ⟨lw_p20, List.forall_mem_cons.mpr ⟨lw_p21, List.forall_mem_cons.mpr ⟨lw_p22, List.forall_mem_cons.mpr ⟨lw_p23, List.forall_mem_cons.mpr ⟨lw_p24, List.forall_mem_cons.mpr ⟨lw_p25, List.forall_mem_cons.mpr ⟨lw_p26, List.forall_mem_cons.mpr ⟨lw_p27, List.forall_mem_cons.mpr ⟨lw_p28, List.forall_mem_cons.mpr ⟨lw_p29, List.forall_mem_cons.mpr ⟨lw_p30, List.forall_mem_cons.mpr ⟨lw_p31, fun _ h => absurd h List.not_mem_nil⟩⟩⟩⟩⟩⟩⟩⟩⟩⟩⟩⟩⟩⟩⟩⟩
theorem lw_p32 : lw_okq (⟨"SelfArranger$Conditions", "fitRow", "(LSelfArranger$Table;I)Z"⟩, 3) := ⟨⟨by decide +kernel, by decide +kernel⟩, List.mem_of_getElem? (i := 57) (by decide +kernel), List.mem_of_getElem? (i := 450) (by decide +kernel), List.mem_of_getElem? (i := 451) (by decide +kernel)⟩
theorem lw_p33 : lw_okq (⟨"SelfArranger$Ledger", "noteQuery", "(LSelfArranger$Conditions;)V"⟩, 3) := ⟨⟨by decide +kernel, by decide +kernel⟩, List.mem_of_getElem? (i := 160) (by decide +kernel), List.mem_of_getElem? (i := 459) (by decide +kernel), List.mem_of_getElem? (i := 460) (by decide +kernel)⟩
theorem lw_p34 : lw_okq (⟨"SelfArranger$Conditions", "kindsCode", "()I"⟩, 3) := ⟨⟨by decide +kernel, by decide +kernel⟩, List.mem_of_getElem? (i := 57) (by decide +kernel), List.mem_of_getElem? (i := 463) (by decide +kernel), List.mem_of_getElem? (i := 464) (by decide +kernel)⟩
theorem lw_p35 : lw_okq (⟨"SelfArranger$Ledger", "placeOf", "(I)I"⟩, 3) := ⟨⟨by decide +kernel, by decide +kernel⟩, List.mem_of_getElem? (i := 160) (by decide +kernel), List.mem_of_getElem? (i := 467) (by decide +kernel), List.mem_of_getElem? (i := 468) (by decide +kernel)⟩
theorem lw_p36 : lw_okq (⟨"SelfArranger$Conditions", "copy", "(LSelfArranger$Conditions;)V"⟩, 3) := ⟨⟨by decide +kernel, by decide +kernel⟩, List.mem_of_getElem? (i := 57) (by decide +kernel), List.mem_of_getElem? (i := 471) (by decide +kernel), List.mem_of_getElem? (i := 472) (by decide +kernel)⟩
theorem lw_p37 : lw_okq (⟨"SelfArranger$Conditions", "put", "(IIII)V"⟩, 3) := ⟨⟨by decide +kernel, by decide +kernel⟩, List.mem_of_getElem? (i := 57) (by decide +kernel), List.mem_of_getElem? (i := 475) (by decide +kernel), List.mem_of_getElem? (i := 476) (by decide +kernel)⟩
theorem lw_p38 : lw_okq (⟨"SelfArranger$Ledger", "fade", "()V"⟩, 3) := ⟨⟨by decide +kernel, by decide +kernel⟩, List.mem_of_getElem? (i := 160) (by decide +kernel), List.mem_of_getElem? (i := 491) (by decide +kernel), List.mem_of_getElem? (i := 492) (by decide +kernel)⟩
theorem lw_p39 : lw_okq (⟨"SelfArranger$Adviser", "measure", "()V"⟩, 3) := ⟨⟨by decide +kernel, by decide +kernel⟩, List.mem_of_getElem? (i := 210) (by decide +kernel), List.mem_of_getElem? (i := 502) (by decide +kernel), List.mem_of_getElem? (i := 503) (by decide +kernel)⟩
theorem lw_p40 : lw_okq (⟨"SelfArranger$Adviser", "bestSet", "(I)I"⟩, 3) := ⟨⟨by decide +kernel, by decide +kernel⟩, List.mem_of_getElem? (i := 210) (by decide +kernel), List.mem_of_getElem? (i := 507) (by decide +kernel), List.mem_of_getElem? (i := 508) (by decide +kernel)⟩
theorem lw_p41 : lw_okq (⟨"SelfArranger$Table", "indexSize", "()I"⟩, 4) := ⟨⟨by decide +kernel, by decide +kernel⟩, List.mem_of_getElem? (i := 31) (by decide +kernel), List.mem_of_getElem? (i := 511) (by decide +kernel), List.mem_of_getElem? (i := 512) (by decide +kernel)⟩
theorem lw_p42 : lw_okq (⟨"SelfArranger$Adviser", "setCost", "(I)J"⟩, 3) := ⟨⟨by decide +kernel, by decide +kernel⟩, List.mem_of_getElem? (i := 210) (by decide +kernel), List.mem_of_getElem? (i := 516) (by decide +kernel), List.mem_of_getElem? (i := 517) (by decide +kernel)⟩
theorem lw_p43 : lw_okq (⟨"SelfArranger$WayCosts", "least", "(I)I"⟩, 2) := ⟨⟨by decide +kernel, by decide +kernel⟩, List.mem_of_getElem? (i := 117) (by decide +kernel), List.mem_of_getElem? (i := 520) (by decide +kernel), List.mem_of_getElem? (i := 521) (by decide +kernel)⟩
theorem lw_p44 : lw_okq (⟨"java/lang/Throwable", "fillInStackTrace", "(I)Ljava/lang/Throwable;"⟩, 6) := ⟨⟨by decide +kernel, by decide +kernel⟩, List.mem_of_getElem? (i := 586) (by decide +kernel), List.mem_of_getElem? (i := 584) (by decide +kernel), List.mem_of_getElem? (i := 585) (by decide +kernel)⟩
theorem lw_p45 : lw_okq (⟨"SelfArranger$Table", "isFull", "()Z"⟩, 4) := ⟨⟨by decide +kernel, by decide +kernel⟩, List.mem_of_getElem? (i := 31) (by decide +kernel), List.mem_of_getElem? (i := 616) (by decide +kernel), List.mem_of_getElem? (i := 617) (by decide +kernel)⟩
theorem lw_p46 : lw_okq (⟨"SelfArranger$Table", "add", "(III)I"⟩, 4) := ⟨⟨by decide +kernel, by decide +kernel⟩, List.mem_of_getElem? (i := 31) (by decide +kernel), List.mem_of_getElem? (i := 636) (by decide +kernel), List.mem_of_getElem? (i := 637) (by decide +kernel)⟩
theorem lw_p47 : lw_okq (⟨"SelfArranger$Table", "put", "(III)V"⟩, 4) := ⟨⟨by decide +kernel, by decide +kernel⟩, List.mem_of_getElem? (i := 31) (by decide +kernel), List.mem_of_getElem? (i := 640) (by decide +kernel), List.mem_of_getElem? (i := 641) (by decide +kernel)⟩
def lw_privs_3 : List (MethodName × Nat) := [(⟨"SelfArranger$Conditions", "fitRow", "(LSelfArranger$Table;I)Z"⟩, 3), (⟨"SelfArranger$Ledger", "noteQuery", "(LSelfArranger$Conditions;)V"⟩, 3), (⟨"SelfArranger$Conditions", "kindsCode", "()I"⟩, 3), (⟨"SelfArranger$Ledger", "placeOf", "(I)I"⟩, 3), (⟨"SelfArranger$Conditions", "copy", "(LSelfArranger$Conditions;)V"⟩, 3), (⟨"SelfArranger$Conditions", "put", "(IIII)V"⟩, 3), (⟨"SelfArranger$Ledger", "fade", "()V"⟩, 3), (⟨"SelfArranger$Adviser", "measure", "()V"⟩, 3), (⟨"SelfArranger$Adviser", "bestSet", "(I)I"⟩, 3), (⟨"SelfArranger$Table", "indexSize", "()I"⟩, 4), (⟨"SelfArranger$Adviser", "setCost", "(I)J"⟩, 3), (⟨"SelfArranger$WayCosts", "least", "(I)I"⟩, 2), (⟨"java/lang/Throwable", "fillInStackTrace", "(I)Ljava/lang/Throwable;"⟩, 6), (⟨"SelfArranger$Table", "isFull", "()Z"⟩, 4), (⟨"SelfArranger$Table", "add", "(III)I"⟩, 4), (⟨"SelfArranger$Table", "put", "(III)V"⟩, 4)]
theorem lw_r3 : ∀ q ∈ lw_privs_3, lw_okq q := List.forall_mem_cons.mpr ⟨lw_p32, List.forall_mem_cons.mpr ⟨lw_p33, List.forall_mem_cons.mpr ⟨lw_p34, List.forall_mem_cons.mpr ⟨lw_p35, List.forall_mem_cons.mpr ⟨lw_p36, List.forall_mem_cons.mpr ⟨lw_p37, List.forall_mem_cons.mpr ⟨lw_p38, List.forall_mem_cons.mpr ⟨lw_p39, List.forall_mem_cons.mpr ⟨lw_p40, List.forall_mem_cons.mpr ⟨lw_p41, List.forall_mem_cons.mpr ⟨lw_p42, List.forall_mem_cons.mpr ⟨lw_p43, List.forall_mem_cons.mpr ⟨lw_p44, List.forall_mem_cons.mpr ⟨lw_p45, List.forall_mem_cons.mpr ⟨lw_p46, List.forall_mem_cons.mpr ⟨lw_p47, fun _ h => absurd h List.not_mem_nil⟩⟩⟩⟩⟩⟩⟩⟩⟩⟩⟩⟩⟩⟩⟩⟩
theorem lw_p48 : lw_okq (⟨"SelfArranger", "noteChange", "(I)V"⟩, 14) := ⟨⟨by decide +kernel, by decide +kernel⟩, List.mem_of_getElem? (i := 23) (by decide +kernel), List.mem_of_getElem? (i := 644) (by decide +kernel), List.mem_of_getElem? (i := 645) (by decide +kernel)⟩
theorem lw_p49 : lw_okq (⟨"SelfArranger$Ledger", "noteChange", "()V"⟩, 3) := ⟨⟨by decide +kernel, by decide +kernel⟩, List.mem_of_getElem? (i := 160) (by decide +kernel), List.mem_of_getElem? (i := 648) (by decide +kernel), List.mem_of_getElem? (i := 649) (by decide +kernel)⟩
theorem lw_p50 : lw_okq (⟨"SelfArranger$Builder", "noteChange", "(I)V"⟩, 5) := ⟨⟨by decide +kernel, by decide +kernel⟩, List.mem_of_getElem? (i := 226) (by decide +kernel), List.mem_of_getElem? (i := 652) (by decide +kernel), List.mem_of_getElem? (i := 653) (by decide +kernel)⟩
theorem lw_p51 : lw_okq (⟨"SelfArranger$Builder", "isBusy", "()Z"⟩, 5) := ⟨⟨by decide +kernel, by decide +kernel⟩, List.mem_of_getElem? (i := 226) (by decide +kernel), List.mem_of_getElem? (i := 656) (by decide +kernel), List.mem_of_getElem? (i := 657) (by decide +kernel)⟩
theorem lw_p52 : lw_okq (⟨"SelfArranger", "requireRow", "(I)V"⟩, 14) := ⟨⟨by decide +kernel, by decide +kernel⟩, List.mem_of_getElem? (i := 23) (by decide +kernel), List.mem_of_getElem? (i := 668) (by decide +kernel), List.mem_of_getElem? (i := 669) (by decide +kernel)⟩
theorem lw_p53 : lw_okq (⟨"SelfArranger$Table", "remove", "(I)V"⟩, 4) := ⟨⟨by decide +kernel, by decide +kernel⟩, List.mem_of_getElem? (i := 31) (by decide +kernel), List.mem_of_getElem? (i := 688) (by decide +kernel), List.mem_of_getElem? (i := 689) (by decide +kernel)⟩
theorem lw_p54 : lw_okq (⟨"SelfArranger$Table", "firstEntry", "(II)I"⟩, 4) := ⟨⟨by decide +kernel, by decide +kernel⟩, List.mem_of_getElem? (i := 31) (by decide +kernel), List.mem_of_getElem? (i := 766) (by decide +kernel), List.mem_of_getElem? (i := 767) (by decide +kernel)⟩
theorem lw_p55 : lw_okq (⟨"SelfArranger$Builder", "begin", "(I)V"⟩, 5) := ⟨⟨by decide +kernel, by decide +kernel⟩, List.mem_of_getElem? (i := 226) (by decide +kernel), List.mem_of_getElem? (i := 825) (by decide +kernel), List.mem_of_getElem? (i := 826) (by decide +kernel)⟩
theorem lw_p56 : lw_okq (⟨"SelfArranger$Builder", "finishIfDone", "()V"⟩, 5) := ⟨⟨by decide +kernel, by decide +kernel⟩, List.mem_of_getElem? (i := 226) (by decide +kernel), List.mem_of_getElem? (i := 829) (by decide +kernel), List.mem_of_getElem? (i := 830) (by decide +kernel)⟩
theorem lw_p57 : lw_okq (⟨"SelfArranger$Builder", "left", "()I"⟩, 5) := ⟨⟨by decide +kernel, by decide +kernel⟩, List.mem_of_getElem? (i := 226) (by decide +kernel), List.mem_of_getElem? (i := 833) (by decide +kernel), List.mem_of_getElem? (i := 834) (by decide +kernel)⟩
theorem lw_p58 : lw_okq (⟨"SelfArranger$Builder", "handle", "(I)I"⟩, 5) := ⟨⟨by decide +kernel, by decide +kernel⟩, List.mem_of_getElem? (i := 226) (by decide +kernel), List.mem_of_getElem? (i := 846) (by decide +kernel), List.mem_of_getElem? (i := 847) (by decide +kernel)⟩
theorem lw_p59 : lw_okq (⟨"SelfArranger$Builder", "discard", "(I)Z"⟩, 5) := ⟨⟨by decide +kernel, by decide +kernel⟩, List.mem_of_getElem? (i := 226) (by decide +kernel), List.mem_of_getElem? (i := 858) (by decide +kernel), List.mem_of_getElem? (i := 859) (by decide +kernel)⟩
theorem lw_p60 : lw_okq (⟨"SelfArrangerModel", "note", "(I)V"⟩, 34) := ⟨⟨by decide +kernel, by decide +kernel⟩, List.mem_of_getElem? (i := 862) (by decide +kernel), List.mem_of_getElem? (i := 982) (by decide +kernel), List.mem_of_getElem? (i := 983) (by decide +kernel)⟩
theorem lw_p61 : lw_okq (⟨"SelfArrangerModel", "isRow", "(I)Z"⟩, 34) := ⟨⟨by decide +kernel, by decide +kernel⟩, List.mem_of_getElem? (i := 862) (by decide +kernel), List.mem_of_getElem? (i := 990) (by decide +kernel), List.mem_of_getElem? (i := 991) (by decide +kernel)⟩
theorem lw_p62 : lw_okq (⟨"SelfArrangerModel", "height", "()I"⟩, 34) := ⟨⟨by decide +kernel, by decide +kernel⟩, List.mem_of_getElem? (i := 862) (by decide +kernel), List.mem_of_getElem? (i := 1012) (by decide +kernel), List.mem_of_getElem? (i := 1013) (by decide +kernel)⟩
theorem lw_p63 : lw_okq (⟨"SelfArrangerModel", "leaves", "()I"⟩, 34) := ⟨⟨by decide +kernel, by decide +kernel⟩, List.mem_of_getElem? (i := 862) (by decide +kernel), List.mem_of_getElem? (i := 1016) (by decide +kernel), List.mem_of_getElem? (i := 1017) (by decide +kernel)⟩
def lw_privs_4 : List (MethodName × Nat) := [(⟨"SelfArranger", "noteChange", "(I)V"⟩, 14), (⟨"SelfArranger$Ledger", "noteChange", "()V"⟩, 3), (⟨"SelfArranger$Builder", "noteChange", "(I)V"⟩, 5), (⟨"SelfArranger$Builder", "isBusy", "()Z"⟩, 5), (⟨"SelfArranger", "requireRow", "(I)V"⟩, 14), (⟨"SelfArranger$Table", "remove", "(I)V"⟩, 4), (⟨"SelfArranger$Table", "firstEntry", "(II)I"⟩, 4), (⟨"SelfArranger$Builder", "begin", "(I)V"⟩, 5), (⟨"SelfArranger$Builder", "finishIfDone", "()V"⟩, 5), (⟨"SelfArranger$Builder", "left", "()I"⟩, 5), (⟨"SelfArranger$Builder", "handle", "(I)I"⟩, 5), (⟨"SelfArranger$Builder", "discard", "(I)Z"⟩, 5), (⟨"SelfArrangerModel", "note", "(I)V"⟩, 34), (⟨"SelfArrangerModel", "isRow", "(I)Z"⟩, 34), (⟨"SelfArrangerModel", "height", "()I"⟩, 34), (⟨"SelfArrangerModel", "leaves", "()I"⟩, 34)]
theorem lw_r4 : ∀ q ∈ lw_privs_4, lw_okq q := List.forall_mem_cons.mpr ⟨lw_p48, List.forall_mem_cons.mpr ⟨lw_p49, List.forall_mem_cons.mpr ⟨lw_p50, List.forall_mem_cons.mpr ⟨lw_p51, List.forall_mem_cons.mpr ⟨lw_p52, List.forall_mem_cons.mpr ⟨lw_p53, List.forall_mem_cons.mpr ⟨lw_p54, List.forall_mem_cons.mpr ⟨lw_p55, List.forall_mem_cons.mpr ⟨lw_p56, List.forall_mem_cons.mpr ⟨lw_p57, List.forall_mem_cons.mpr ⟨lw_p58, List.forall_mem_cons.mpr ⟨lw_p59, List.forall_mem_cons.mpr ⟨lw_p60, List.forall_mem_cons.mpr ⟨lw_p61, List.forall_mem_cons.mpr ⟨lw_p62, List.forall_mem_cons.mpr ⟨lw_p63, fun _ h => absurd h List.not_mem_nil⟩⟩⟩⟩⟩⟩⟩⟩⟩⟩⟩⟩⟩⟩⟩⟩
theorem lw_p64 : lw_okq (⟨"SelfArrangerModel", "live", "()I"⟩, 34) := ⟨⟨by decide +kernel, by decide +kernel⟩, List.mem_of_getElem? (i := 862) (by decide +kernel), List.mem_of_getElem? (i := 1020) (by decide +kernel), List.mem_of_getElem? (i := 1021) (by decide +kernel)⟩
theorem lw_p65 : lw_okq (⟨"SelfArrangerModel", "sizeOfIndex", "()I"⟩, 34) := ⟨⟨by decide +kernel, by decide +kernel⟩, List.mem_of_getElem? (i := 862) (by decide +kernel), List.mem_of_getElem? (i := 1027) (by decide +kernel), List.mem_of_getElem? (i := 1028) (by decide +kernel)⟩
theorem lw_p66 : lw_okq (⟨"SelfArrangerModel", "sort", "(II)V"⟩, 34) := ⟨⟨by decide +kernel, by decide +kernel⟩, List.mem_of_getElem? (i := 862) (by decide +kernel), List.mem_of_getElem? (i := 1031) (by decide +kernel), List.mem_of_getElem? (i := 1032) (by decide +kernel)⟩
theorem lw_p67 : lw_okq (⟨"SelfArrangerModel", "isBefore", "(IIII)Z"⟩, 34) := ⟨⟨by decide +kernel, by decide +kernel⟩, List.mem_of_getElem? (i := 862) (by decide +kernel), List.mem_of_getElem? (i := 1035) (by decide +kernel), List.mem_of_getElem? (i := 1036) (by decide +kernel)⟩
theorem lw_p68 : lw_okq (⟨"SelfArrangerModel", "of", "(II)I"⟩, 34) := ⟨⟨by decide +kernel, by decide +kernel⟩, List.mem_of_getElem? (i := 862) (by decide +kernel), List.mem_of_getElem? (i := 1039) (by decide +kernel), List.mem_of_getElem? (i := 1040) (by decide +kernel)⟩
theorem lw_p69 : lw_okq (⟨"SelfArrangerModel", "heapPages", "()I"⟩, 34) := ⟨⟨by decide +kernel, by decide +kernel⟩, List.mem_of_getElem? (i := 862) (by decide +kernel), List.mem_of_getElem? (i := 1047) (by decide +kernel), List.mem_of_getElem? (i := 1048) (by decide +kernel)⟩
theorem lw_p70 : lw_okq (⟨"SelfArrangerModel", "isWay", "(II)Z"⟩, 34) := ⟨⟨by decide +kernel, by decide +kernel⟩, List.mem_of_getElem? (i := 862) (by decide +kernel), List.mem_of_getElem? (i := 1051) (by decide +kernel), List.mem_of_getElem? (i := 1052) (by decide +kernel)⟩
theorem lw_p71 : lw_okq (⟨"SelfArrangerModel", "costBy", "(II)I"⟩, 34) := ⟨⟨by decide +kernel, by decide +kernel⟩, List.mem_of_getElem? (i := 862) (by decide +kernel), List.mem_of_getElem? (i := 1055) (by decide +kernel), List.mem_of_getElem? (i := 1056) (by decide +kernel)⟩
theorem lw_p72 : lw_okq (⟨"SelfArrangerModel", "stretch", "(II)V"⟩, 34) := ⟨⟨by decide +kernel, by decide +kernel⟩, List.mem_of_getElem? (i := 862) (by decide +kernel), List.mem_of_getElem? (i := 1059) (by decide +kernel), List.mem_of_getElem? (i := 1060) (by decide +kernel)⟩
theorem lw_p73 : lw_okq (⟨"SelfArrangerModel", "isAhead", "(III)Z"⟩, 34) := ⟨⟨by decide +kernel, by decide +kernel⟩, List.mem_of_getElem? (i := 862) (by decide +kernel), List.mem_of_getElem? (i := 1063) (by decide +kernel), List.mem_of_getElem? (i := 1064) (by decide +kernel)⟩
theorem lw_p74 : lw_okq (⟨"SelfArrangerModel", "countsSecond", "(II)Z"⟩, 34) := ⟨⟨by decide +kernel, by decide +kernel⟩, List.mem_of_getElem? (i := 862) (by decide +kernel), List.mem_of_getElem? (i := 1067) (by decide +kernel), List.mem_of_getElem? (i := 1068) (by decide +kernel)⟩
theorem lw_p75 : lw_okq (⟨"SelfArrangerModel", "isIn", "(III)Z"⟩, 34) := ⟨⟨by decide +kernel, by decide +kernel⟩, List.mem_of_getElem? (i := 862) (by decide +kernel), List.mem_of_getElem? (i := 1071) (by decide +kernel), List.mem_of_getElem? (i := 1072) (by decide +kernel)⟩
theorem lw_p76 : lw_okq (⟨"SelfArrangerModel", "fits", "(III)Z"⟩, 34) := ⟨⟨by decide +kernel, by decide +kernel⟩, List.mem_of_getElem? (i := 862) (by decide +kernel), List.mem_of_getElem? (i := 1075) (by decide +kernel), List.mem_of_getElem? (i := 1076) (by decide +kernel)⟩
theorem lw_p77 : lw_okq (⟨"SelfArrangerModel", "leavesTouched", "()I"⟩, 34) := ⟨⟨by decide +kernel, by decide +kernel⟩, List.mem_of_getElem? (i := 862) (by decide +kernel), List.mem_of_getElem? (i := 1079) (by decide +kernel), List.mem_of_getElem? (i := 1080) (by decide +kernel)⟩
theorem lw_p78 : lw_okq (⟨"SelfArrangerModel", "wayOf", "(II)I"⟩, 34) := ⟨⟨by decide +kernel, by decide +kernel⟩, List.mem_of_getElem? (i := 862) (by decide +kernel), List.mem_of_getElem? (i := 1095) (by decide +kernel), List.mem_of_getElem? (i := 1096) (by decide +kernel)⟩
theorem lw_p79 : lw_okq (⟨"SelfArrangerModel", "costOfWay", "(II)I"⟩, 34) := ⟨⟨by decide +kernel, by decide +kernel⟩, List.mem_of_getElem? (i := 862) (by decide +kernel), List.mem_of_getElem? (i := 1099) (by decide +kernel), List.mem_of_getElem? (i := 1100) (by decide +kernel)⟩
def lw_privs_5 : List (MethodName × Nat) := [(⟨"SelfArrangerModel", "live", "()I"⟩, 34), (⟨"SelfArrangerModel", "sizeOfIndex", "()I"⟩, 34), (⟨"SelfArrangerModel", "sort", "(II)V"⟩, 34), (⟨"SelfArrangerModel", "isBefore", "(IIII)Z"⟩, 34), (⟨"SelfArrangerModel", "of", "(II)I"⟩, 34), (⟨"SelfArrangerModel", "heapPages", "()I"⟩, 34), (⟨"SelfArrangerModel", "isWay", "(II)Z"⟩, 34), (⟨"SelfArrangerModel", "costBy", "(II)I"⟩, 34), (⟨"SelfArrangerModel", "stretch", "(II)V"⟩, 34), (⟨"SelfArrangerModel", "isAhead", "(III)Z"⟩, 34), (⟨"SelfArrangerModel", "countsSecond", "(II)Z"⟩, 34), (⟨"SelfArrangerModel", "isIn", "(III)Z"⟩, 34), (⟨"SelfArrangerModel", "fits", "(III)Z"⟩, 34), (⟨"SelfArrangerModel", "leavesTouched", "()I"⟩, 34), (⟨"SelfArrangerModel", "wayOf", "(II)I"⟩, 34), (⟨"SelfArrangerModel", "costOfWay", "(II)I"⟩, 34)]
theorem lw_r5 : ∀ q ∈ lw_privs_5, lw_okq q := List.forall_mem_cons.mpr ⟨lw_p64, List.forall_mem_cons.mpr ⟨lw_p65, List.forall_mem_cons.mpr ⟨lw_p66, List.forall_mem_cons.mpr ⟨lw_p67, List.forall_mem_cons.mpr ⟨lw_p68, List.forall_mem_cons.mpr ⟨lw_p69, List.forall_mem_cons.mpr ⟨lw_p70, List.forall_mem_cons.mpr ⟨lw_p71, List.forall_mem_cons.mpr ⟨lw_p72, List.forall_mem_cons.mpr ⟨lw_p73, List.forall_mem_cons.mpr ⟨lw_p74, List.forall_mem_cons.mpr ⟨lw_p75, List.forall_mem_cons.mpr ⟨lw_p76, List.forall_mem_cons.mpr ⟨lw_p77, List.forall_mem_cons.mpr ⟨lw_p78, List.forall_mem_cons.mpr ⟨lw_p79, fun _ h => absurd h List.not_mem_nil⟩⟩⟩⟩⟩⟩⟩⟩⟩⟩⟩⟩⟩⟩⟩⟩
theorem lw_p80 : lw_okq (⟨"SelfArrangerModel", "touch", "(III)V"⟩, 34) := ⟨⟨by decide +kernel, by decide +kernel⟩, List.mem_of_getElem? (i := 862) (by decide +kernel), List.mem_of_getElem? (i := 1103) (by decide +kernel), List.mem_of_getElem? (i := 1104) (by decide +kernel)⟩
theorem lw_p81 : lw_okq (⟨"SelfArrangerModel", "touchIndex", "(I)V"⟩, 34) := ⟨⟨by decide +kernel, by decide +kernel⟩, List.mem_of_getElem? (i := 862) (by decide +kernel), List.mem_of_getElem? (i := 1107) (by decide +kernel), List.mem_of_getElem? (i := 1108) (by decide +kernel)⟩
theorem lw_p82 : lw_okq (⟨"SelfArrangerModel", "firstLeaf", "()I"⟩, 34) := ⟨⟨by decide +kernel, by decide +kernel⟩, List.mem_of_getElem? (i := 862) (by decide +kernel), List.mem_of_getElem? (i := 1111) (by decide +kernel), List.mem_of_getElem? (i := 1112) (by decide +kernel)⟩
theorem lw_p83 : lw_okq (⟨"SelfArrangerModel", "remember", "()V"⟩, 34) := ⟨⟨by decide +kernel, by decide +kernel⟩, List.mem_of_getElem? (i := 862) (by decide +kernel), List.mem_of_getElem? (i := 1115) (by decide +kernel), List.mem_of_getElem? (i := 1116) (by decide +kernel)⟩
theorem lw_p84 : lw_okq (⟨"SelfArrangerModel", "findShape", "()I"⟩, 34) := ⟨⟨by decide +kernel, by decide +kernel⟩, List.mem_of_getElem? (i := 862) (by decide +kernel), List.mem_of_getElem? (i := 1119) (by decide +kernel), List.mem_of_getElem? (i := 1120) (by decide +kernel)⟩
theorem lw_p85 : lw_okq (⟨"SelfArrangerModel", "copyShape", "(II)V"⟩, 34) := ⟨⟨by decide +kernel, by decide +kernel⟩, List.mem_of_getElem? (i := 862) (by decide +kernel), List.mem_of_getElem? (i := 1123) (by decide +kernel), List.mem_of_getElem? (i := 1124) (by decide +kernel)⟩
theorem lw_p86 : lw_okq (⟨"SelfArrangerModel", "findCosts", "()V"⟩, 34) := ⟨⟨by decide +kernel, by decide +kernel⟩, List.mem_of_getElem? (i := 862) (by decide +kernel), List.mem_of_getElem? (i := 1159) (by decide +kernel), List.mem_of_getElem? (i := 1160) (by decide +kernel)⟩
theorem lw_p87 : lw_okq (⟨"SelfArrangerModel", "sumOf", "(I)J"⟩, 34) := ⟨⟨by decide +kernel, by decide +kernel⟩, List.mem_of_getElem? (i := 862) (by decide +kernel), List.mem_of_getElem? (i := 1163) (by decide +kernel), List.mem_of_getElem? (i := 1164) (by decide +kernel)⟩
theorem lw_p88 : lw_okq (⟨"SelfArrangerModel", "settle", "()I"⟩, 34) := ⟨⟨by decide +kernel, by decide +kernel⟩, List.mem_of_getElem? (i := 862) (by decide +kernel), List.mem_of_getElem? (i := 1178) (by decide +kernel), List.mem_of_getElem? (i := 1179) (by decide +kernel)⟩
theorem lw_p89 : lw_okq (⟨"SelfArrangerModel", "leftToDo", "()I"⟩, 34) := ⟨⟨by decide +kernel, by decide +kernel⟩, List.mem_of_getElem? (i := 862) (by decide +kernel), List.mem_of_getElem? (i := 1182) (by decide +kernel), List.mem_of_getElem? (i := 1183) (by decide +kernel)⟩
def lw_privs_6 : List (MethodName × Nat) := [(⟨"SelfArrangerModel", "touch", "(III)V"⟩, 34), (⟨"SelfArrangerModel", "touchIndex", "(I)V"⟩, 34), (⟨"SelfArrangerModel", "firstLeaf", "()I"⟩, 34), (⟨"SelfArrangerModel", "remember", "()V"⟩, 34), (⟨"SelfArrangerModel", "findShape", "()I"⟩, 34), (⟨"SelfArrangerModel", "copyShape", "(II)V"⟩, 34), (⟨"SelfArrangerModel", "findCosts", "()V"⟩, 34), (⟨"SelfArrangerModel", "sumOf", "(I)J"⟩, 34), (⟨"SelfArrangerModel", "settle", "()I"⟩, 34), (⟨"SelfArrangerModel", "leftToDo", "()I"⟩, 34)]
theorem lw_r6 : ∀ q ∈ lw_privs_6, lw_okq q := List.forall_mem_cons.mpr ⟨lw_p80, List.forall_mem_cons.mpr ⟨lw_p81, List.forall_mem_cons.mpr ⟨lw_p82, List.forall_mem_cons.mpr ⟨lw_p83, List.forall_mem_cons.mpr ⟨lw_p84, List.forall_mem_cons.mpr ⟨lw_p85, List.forall_mem_cons.mpr ⟨lw_p86, List.forall_mem_cons.mpr ⟨lw_p87, List.forall_mem_cons.mpr ⟨lw_p88, List.forall_mem_cons.mpr ⟨lw_p89, fun _ h => absurd h List.not_mem_nil⟩⟩⟩⟩⟩⟩⟩⟩⟩⟩
def lw_privs : List (MethodName × Nat) := lw_privs_1 ++ (lw_privs_2 ++ (lw_privs_3 ++ (lw_privs_4 ++ (lw_privs_5 ++ (lw_privs_6)))))
def lw_tbl : List Cond := k2_sels lw_privs ++ tables_1
theorem lw_privs_ok : ∀ q ∈ lw_privs, lw_okq q := by
  show ∀ q ∈ lw_privs_1 ++ (lw_privs_2 ++ (lw_privs_3 ++ (lw_privs_4 ++ (lw_privs_5 ++ (lw_privs_6))))), lw_okq q
  exact List.forall_mem_append.mpr ⟨lw_r1, List.forall_mem_append.mpr ⟨lw_r2, List.forall_mem_append.mpr ⟨lw_r3, List.forall_mem_append.mpr ⟨lw_r4, List.forall_mem_append.mpr ⟨lw_r5, lw_r6⟩⟩⟩⟩⟩
end
section
/-! Names (written by wip/emit.py out of the Statement): methods, classes, words -/
-- a method: name, bytes, locals, return type, handlers (none: not known)
abbrev gM : Type := MethodName × ByteArray × Nat × Option FieldType × Option (List (Nat × Nat × Nat × Nat))
abbrev gM.y (M : gM) : MethodName := M.1
abbrev gM.code (M : gM) : ByteArray := M.2.1
abbrev gM.maxL (M : gM) : Nat := M.2.2.1
abbrev gM.ret (M : gM) : Option FieldType := M.2.2.2.1
abbrev gM.hh (M : gM) : Option (List (Nat × Nat × Nat × Nat)) := M.2.2.2.2
def gD (M : gM) (pc : Nat) (i : Instr) (n pc' : Nat) : Prop := decode M.code pc = .ok (i, n) ∧ pc + n = pc'
def gRd : Cond → Bool
  | .fieldLinkNest .. => true
  | .methodLinkNest .. => true
  | .castable .. => true
  | .declares _ => true
  | c => c.onTables && c.keeps
theorem gRd_on {w : Cond} (h : gRd w = true) : w.onTables = true := by
  unfold gRd at h
  split at h
  · rfl
  · rfl
  · rfl
  · rfl
  · simp only [Bool.and_eq_true] at h
    exact h.1
theorem gRd_ride {w : Cond} (h : gRd w = true) {s U : State} (hW : s.WarmedH U.vm) (hb : w.before #[] s = true) : w.before #[] U = true := by
  unfold gRd at h
  split at h
  · exact va_Nw.warmF hW hb
  · exact va_Nw.warmM hW hb
  · exact va_Nw.warmC hW hb
  · exact va_Nw.warmD hW hb
  · exact word_at hW (Or.inl h) hb
-- the words that stay true under warmer tables
def gTW : List Cond := lw_tbl.filter gRd
theorem gTW_on (w : Cond) (h : w ∈ gTW) : w.onTables = true := gRd_on (List.mem_filter.mp h).2
theorem gTW_in {w : Cond} (i : Nat) (h : tables_1[i]? = some w) (hr : gRd w = true) : w ∈ gTW := List.mem_filter.mpr ⟨List.mem_append_right _ (List.mem_of_getElem? h), hr⟩
theorem gTW_sel {y : MethodName} (i n : Nat) (h : lw_privs[i]? = some (y, n)) (hr : gRd (Cond.selects y.cls y y) = true) : Cond.selects y.cls y y ∈ gTW := List.mem_filter.mpr ⟨List.mem_append_left _ (List.mem_map.mpr ⟨(y, n), List.mem_of_getElem? h, rfl⟩), hr⟩
-- the texts of the exceptions
def gSTR : List (String × Nat × String) := [("SelfArranger", 287, "the value is not from -1000 to 1000"), ("SelfArranger", 100, "there were 64 rows"), ("SelfArranger", 281, "the row is not there"), ("SelfArranger", 283, "no such column"), ("SelfArranger", 131, "no such kind of condition"), ("SelfArranger", 137, "the limit is not 0 .. 64"), ("SelfArranger", 157, "the answer has no such row"), ("SelfArranger", 173, "no such figure of an asking"), ("SelfArranger", 285, "no such index"), ("SelfArranger", 204, "no such figure of an index"), ("SelfArranger", 207, "no such shape"), ("SelfArranger", 231, "no such figure of a shape"), ("SelfArranger", 239, "the budget is not 0 .. 200"), ("SelfArranger", 246, "the set is not 0 .. 511"), ("SelfArranger", 257, "the index is not none, or another one is building"), ("SelfArranger", 263, "the number is not 1 .. 64"), ("SelfArranger", 265, "no index is building")]
def gShape : String := "SelfArranger$Shape"
def gEx : Nat → String
  | 0 => "java/lang/IllegalArgumentException"
  | 1 => "java/lang/UnsupportedOperationException"
  | 2 => "java/lang/IndexOutOfBoundsException"
  | _ => "java/lang/IllegalStateException"
def m_A_init : gM := (⟨"SelfArranger", "<init>", "(I)V"⟩, prog_1_method_1_code, 2, none, (some []))
def m_T_init : gM := (⟨"SelfArranger$Table", "<init>", "()V"⟩, prog_10_method_1_code, 1, none, (some []))
def m_C_init : gM := (⟨"SelfArranger$Conditions", "<init>", "()V"⟩, prog_4_method_1_code, 1, none, (some []))
def m_S_init : gM := (⟨"SelfArranger$Stretch", "<init>", "(LSelfArranger$Table;)V"⟩, prog_9_method_1_code, 2, none, (some []))
def m_R_init : gM := (⟨"SelfArranger$RowList", "<init>", "()V"⟩, prog_7_method_1_code, 1, none, (some []))
def m_W_init : gM := (⟨"SelfArranger$WayCosts", "<init>", "()V"⟩, prog_11_method_1_code, 1, none, (some []))
def m_P_init : gM := (⟨"SelfArranger$Pool", "<init>", "(I)V"⟩, prog_6_method_1_code, 4, none, (some []))
def m_J_min : gM := (⟨"java/lang/Math", "min", "(II)I"⟩, prog_19_method_69_code, 2, (some .int), (some []))
def m_J_max : gM := (⟨"java/lang/Math", "max", "(II)I"⟩, prog_19_method_65_code, 2, (some .int), (some []))
def m_D_init : gM := (⟨"SelfArranger$Ledger", "<init>", "()V"⟩, prog_5_method_1_code, 2, none, (some []))
def m_H_init : gM := (⟨"SelfArranger$Shape", "<init>", "()V"⟩, prog_8_method_1_code, 1, none, (some []))
def m_V_init : gM := (⟨"SelfArranger$Adviser", "<init>", "(LSelfArranger$Table;LSelfArranger$Stretch;LSelfArranger$Ledger;)V"⟩, prog_2_method_1_code, 4, none, (some []))
def m_B_init : gM := (⟨"SelfArranger$Builder", "<init>", "(LSelfArranger$Table;)V"⟩, prog_3_method_1_code, 2, none, (some []))
def m_A_ask : gM := (⟨"SelfArranger", "ask", "()I"⟩, prog_1_method_8_code, 1, (some .int), (some []))
def m_A_takeCheapestWay : gM := (⟨"SelfArranger", "takeCheapestWay", "()V"⟩, prog_1_method_28_code, 1, none, (some []))
def m_W_measure : gM := (⟨"SelfArranger$WayCosts", "measure", "(LSelfArranger$Table;LSelfArranger$Stretch;LSelfArranger$Conditions;)V"⟩, prog_11_method_2_code, 5, none, (some []))
def m_T_heapPages : gM := (⟨"SelfArranger$Table", "heapPages", "()I"⟩, prog_10_method_7_code, 1, (some .int), (some []))
def m_A_groupsOfFour : gM := (⟨"SelfArranger", "groupsOfFour", "(I)I"⟩, prog_1_method_34_code, 1, (some .int), (some []))
def m_C_binds : gM := (⟨"SelfArranger$Conditions", "binds", "(I)Z"⟩, prog_4_method_4_code, 2, (some .boolean), (some []))
def m_S_lay : gM := (⟨"SelfArranger$Stretch", "lay", "(LSelfArranger$Conditions;I)V"⟩, prog_9_method_2_code, 4, none, (some []))
def m_S_place : gM := (⟨"SelfArranger$Stretch", "place", "(LSelfArranger$Conditions;I)V"⟩, prog_9_method_3_code, 3, none, (some []))
def m_S_isBefore : gM := (⟨"SelfArranger$Stretch", "isBefore", "(LSelfArranger$Conditions;I)Z"⟩, prog_9_method_4_code, 5, (some .boolean), (some []))
def m_T_at : gM := (⟨"SelfArranger$Table", "at", "(II)I"⟩, prog_10_method_6_code, 3, (some .int), (some []))
def m_S_isInside : gM := (⟨"SelfArranger$Stretch", "isInside", "(LSelfArranger$Conditions;I)Z"⟩, prog_9_method_5_code, 3, (some .boolean), (some []))
def m_C_fit : gM := (⟨"SelfArranger$Conditions", "fit", "(II)Z"⟩, prog_4_method_5_code, 3, (some .boolean), (some []))
def m_R_append : gM := (⟨"SelfArranger$RowList", "append", "(I)V"⟩, prog_7_method_2_code, 2, none, (some []))
def m_S_pages : gM := (⟨"SelfArranger$Stretch", "pages", "()I"⟩, prog_9_method_9_code, 1, (some .int), (some []))
def m_T_indexHeight : gM := (⟨"SelfArranger$Table", "indexHeight", "()I"⟩, prog_10_method_9_code, 3, (some .int), (some []))
def m_T_indexLeaves : gM := (⟨"SelfArranger$Table", "indexLeaves", "()I"⟩, prog_10_method_8_code, 1, (some .int), (some []))
def m_S_leaves : gM := (⟨"SelfArranger$Stretch", "leaves", "()I"⟩, prog_9_method_8_code, 1, (some .int), (some []))
def m_B_readySet : gM := (⟨"SelfArranger$Builder", "readySet", "()I"⟩, prog_3_method_3_code, 3, (some .int), (some []))
def m_W_cheapest : gM := (⟨"SelfArranger$WayCosts", "cheapest", "(I)I"⟩, prog_11_method_4_code, 5, (some .int), (some []))
def m_W_at : gM := (⟨"SelfArranger$WayCosts", "at", "(I)I"⟩, prog_11_method_3_code, 2, (some .int), (some []))
def m_A_touchPages : gM := (⟨"SelfArranger", "touchPages", "()V"⟩, prog_1_method_29_code, 1, none, (some []))
def m_P_countAnew : gM := (⟨"SelfArranger$Pool", "countAnew", "()V"⟩, prog_6_method_2_code, 1, none, (some []))
def m_A_touchHeap : gM := (⟨"SelfArranger", "touchHeap", "()V"⟩, prog_1_method_30_code, 3, none, (some []))
def m_P_touch : gM := (⟨"SelfArranger$Pool", "touch", "(III)V"⟩, prog_6_method_3_code, 6, none, (some []))
def m_P_frameOf : gM := (⟨"SelfArranger$Pool", "frameOf", "(I)I"⟩, prog_6_method_4_code, 3, (some .int), (some []))
def m_P_freeFrame : gM := (⟨"SelfArranger$Pool", "freeFrame", "()I"⟩, prog_6_method_5_code, 2, (some .int), (some []))
def m_P_moveHand : gM := (⟨"SelfArranger$Pool", "moveHand", "()V"⟩, prog_6_method_6_code, 1, none, (some []))
def m_A_touchIndex : gM := (⟨"SelfArranger", "touchIndex", "(I)V"⟩, prog_1_method_31_code, 5, none, (some []))
def m_S_firstLeaf : gM := (⟨"SelfArranger$Stretch", "firstLeaf", "()I"⟩, prog_9_method_7_code, 1, (some .int), (some []))
def m_A_nodeAbove : gM := (⟨"SelfArranger", "nodeAbove", "(II)I"⟩, prog_1_method_32_code, 4, (some .int), (some []))
def m_S_sort : gM := (⟨"SelfArranger$Stretch", "sort", "()V"⟩, prog_9_method_6_code, 1, none, (some []))
def m_R_sort : gM := (⟨"SelfArranger$RowList", "sort", "(LSelfArranger$Table;II)V"⟩, prog_7_method_3_code, 7, none, (some []))
def m_T_isAfter : gM := (⟨"SelfArranger$Table", "isAfter", "(IIII)Z"⟩, prog_10_method_12_code, 6, (some .boolean), (some []))
def m_T_compare : gM := (⟨"SelfArranger$Table", "compare", "(III)I"⟩, prog_10_method_13_code, 4, (some .int), (some []))
def m_J_compare : gM := (⟨"java/lang/Integer", "compare", "(II)I"⟩, prog_18_method_40_code, 2, (some .int), (some []))
def m_A_findAnswer : gM := (⟨"SelfArranger", "findAnswer", "()V"⟩, prog_1_method_33_code, 2, none, (some []))
def m_C_fitRow : gM := (⟨"SelfArranger$Conditions", "fitRow", "(LSelfArranger$Table;I)Z"⟩, prog_4_method_6_code, 4, (some .boolean), (some []))
def m_D_noteQuery : gM := (⟨"SelfArranger$Ledger", "noteQuery", "(LSelfArranger$Conditions;)V"⟩, prog_5_method_2_code, 3, none, (some []))
def m_C_kindsCode : gM := (⟨"SelfArranger$Conditions", "kindsCode", "()I"⟩, prog_4_method_7_code, 3, (some .int), (some []))
def m_D_placeOf : gM := (⟨"SelfArranger$Ledger", "placeOf", "(I)I"⟩, prog_5_method_3_code, 3, (some .int), (some []))
def m_C_copy : gM := (⟨"SelfArranger$Conditions", "copy", "(LSelfArranger$Conditions;)V"⟩, prog_4_method_3_code, 3, none, (some []))
def m_C_put : gM := (⟨"SelfArranger$Conditions", "put", "(IIII)V"⟩, prog_4_method_2_code, 5, none, (some []))
def m_A_shapes : gM := (⟨"SelfArranger", "shapes", "()I"⟩, prog_1_method_13_code, 1, (some .int), (some []))
def m_A_changes : gM := (⟨"SelfArranger", "changes", "()I"⟩, prog_1_method_15_code, 1, (some .int), (some []))
def m_A_period : gM := (⟨"SelfArranger", "period", "()I"⟩, prog_1_method_16_code, 1, (some .int), (some []))
def m_D_fade : gM := (⟨"SelfArranger$Ledger", "fade", "()V"⟩, prog_5_method_5_code, 4, none, (some []))
def m_D_threeQuarters : gM := (⟨"SelfArranger$Ledger", "threeQuarters", "(I)I"⟩, prog_5_method_6_code, 1, (some .int), (some []))
def m_A_choose : gM := (⟨"SelfArranger", "choose", "()I"⟩, prog_1_method_18_code, 1, (some .int), (some []))
def m_V_measure : gM := (⟨"SelfArranger$Adviser", "measure", "()V"⟩, prog_2_method_2_code, 3, none, (some []))
def m_V_bestSet : gM := (⟨"SelfArranger$Adviser", "bestSet", "(I)I"⟩, prog_2_method_4_code, 10, (some .int), (some []))
def m_T_indexSize : gM := (⟨"SelfArranger$Table", "indexSize", "()I"⟩, prog_10_method_10_code, 5, (some .int), (some []))
def m_V_setCost : gM := (⟨"SelfArranger$Adviser", "setCost", "(I)J"⟩, prog_2_method_3_code, 6, (some .long), (some []))
def m_W_least : gM := (⟨"SelfArranger$WayCosts", "least", "(I)I"⟩, prog_11_method_5_code, 2, (some .int), (some []))
def m_J_bitCount : gM := (⟨"java/lang/Integer", "bitCount", "(I)I"⟩, prog_18_method_49_code, 1, (some .int), (some []))
def m_L_cell : gM := (⟨"SelfArrangerLaw", "cell", "([II)I"⟩, method_2_code, 2, (some .int), (some []))
def m_L_insert : gM := (⟨"SelfArrangerLaw", "insert", "(LSelfArranger;III[J)I"⟩, method_3_code, 6, (some .int), (some [(0, 12, 15, 13), (0, 12, 19, 15)]))
def m_A_insert : gM := (⟨"SelfArranger", "insert", "(III)I"⟩, prog_1_method_2_code, 5, (some .int), (some []))
def m_A_requireValue : gM := (⟨"SelfArranger", "requireValue", "(I)V"⟩, prog_1_method_26_code, 1, none, (some []))
def m_T_isFull : gM := (⟨"SelfArranger$Table", "isFull", "()Z"⟩, prog_10_method_2_code, 1, (some .boolean), (some []))
def m_T_add : gM := (⟨"SelfArranger$Table", "add", "(III)I"⟩, prog_10_method_3_code, 5, (some .int), (some []))
def m_T_put : gM := (⟨"SelfArranger$Table", "put", "(III)V"⟩, prog_10_method_5_code, 4, none, (some []))
def m_A_noteChange : gM := (⟨"SelfArranger", "noteChange", "(I)V"⟩, prog_1_method_27_code, 2, none, (some []))
def m_D_noteChange : gM := (⟨"SelfArranger$Ledger", "noteChange", "()V"⟩, prog_5_method_4_code, 1, none, (some []))
def m_B_noteChange : gM := (⟨"SelfArranger$Builder", "noteChange", "(I)V"⟩, prog_3_method_5_code, 2, none, (some []))
def m_B_isBusy : gM := (⟨"SelfArranger$Builder", "isBusy", "()Z"⟩, prog_3_method_2_code, 1, (some .boolean), (some []))
def m_L_delete : gM := (⟨"SelfArrangerLaw", "delete", "(LSelfArranger;I)I"⟩, method_4_code, 3, (some .int), (some [(0, 5, 8, 21)]))
def m_A_delete : gM := (⟨"SelfArranger", "delete", "(I)V"⟩, prog_1_method_3_code, 2, none, (some []))
def m_A_requireRow : gM := (⟨"SelfArranger", "requireRow", "(I)V"⟩, prog_1_method_23_code, 2, none, (some []))
def m_T_remove : gM := (⟨"SelfArranger$Table", "remove", "(I)V"⟩, prog_10_method_4_code, 2, none, (some []))
def m_L_change : gM := (⟨"SelfArrangerLaw", "change", "(LSelfArranger;III)I"⟩, method_5_code, 5, (some .int), (some [(0, 7, 10, 21), (0, 7, 14, 13)]))
def m_A_change : gM := (⟨"SelfArranger", "change", "(III)V"⟩, prog_1_method_4_code, 4, none, (some []))
def m_A_requireColumn : gM := (⟨"SelfArranger", "requireColumn", "(I)V"⟩, prog_1_method_24_code, 1, none, (some []))
def m_L_value : gM := (⟨"SelfArrangerLaw", "value", "(LSelfArranger;II[J)I"⟩, method_6_code, 5, (some .int), (some [(0, 10, 13, 21)]))
def m_A_value : gM := (⟨"SelfArranger", "value", "(II)I"⟩, prog_1_method_5_code, 3, (some .int), (some []))
def m_L_where : gM := (⟨"SelfArrangerLaw", "where", "(LSelfArranger;IIII)I"⟩, method_7_code, 6, (some .int), (some [(0, 9, 12, 21), (0, 9, 16, 13)]))
def m_A_where : gM := (⟨"SelfArranger", "where", "(IIII)V"⟩, prog_1_method_6_code, 5, none, (some []))
def m_L_order : gM := (⟨"SelfArrangerLaw", "order", "(LSelfArranger;II)I"⟩, method_8_code, 4, (some .int), (some [(0, 6, 9, 21), (0, 6, 12, 13)]))
def m_A_order : gM := (⟨"SelfArranger", "order", "(II)V"⟩, prog_1_method_7_code, 3, none, (some []))
def m_L_answer : gM := (⟨"SelfArrangerLaw", "answer", "(LSelfArranger;I[J)I"⟩, method_9_code, 4, (some .int), (some [(0, 9, 12, 21)]))
def m_A_answer : gM := (⟨"SelfArranger", "answer", "(I)I"⟩, prog_1_method_9_code, 2, (some .int), (some []))
def m_L_last : gM := (⟨"SelfArrangerLaw", "last", "(LSelfArranger;I[J)I"⟩, method_10_code, 4, (some .int), (some [(0, 9, 12, 21)]))
def m_A_last : gM := (⟨"SelfArranger", "last", "(I)I"⟩, prog_1_method_10_code, 2, (some .int), (some []))
def m_L_cost : gM := (⟨"SelfArrangerLaw", "cost", "(LSelfArranger;I[J)I"⟩, method_11_code, 4, (some .int), (some [(0, 9, 12, 21)]))
def m_A_cost : gM := (⟨"SelfArranger", "cost", "(I)I"⟩, prog_1_method_11_code, 2, (some .int), (some []))
def m_A_requireIndex : gM := (⟨"SelfArranger", "requireIndex", "(I)V"⟩, prog_1_method_25_code, 1, none, (some []))
def m_L_index : gM := (⟨"SelfArrangerLaw", "index", "(LSelfArranger;II[J)I"⟩, method_12_code, 5, (some .int), (some [(0, 10, 13, 21)]))
def m_A_index : gM := (⟨"SelfArranger", "index", "(II)I"⟩, prog_1_method_12_code, 3, (some .int), (some []))
def m_T_firstEntry : gM := (⟨"SelfArranger$Table", "firstEntry", "(II)I"⟩, prog_10_method_11_code, 5, (some .int), (some []))
def m_L_shape : gM := (⟨"SelfArrangerLaw", "shape", "(LSelfArranger;II[J)I"⟩, method_13_code, 5, (some .int), (some [(0, 10, 13, 21)]))
def m_A_shape : gM := (⟨"SelfArranger", "shape", "(II)I"⟩, prog_1_method_14_code, 4, (some .int), (some []))
def m_L_budget : gM := (⟨"SelfArrangerLaw", "budget", "(LSelfArranger;I)I"⟩, method_14_code, 3, (some .int), (some [(0, 5, 8, 13)]))
def m_A_budget : gM := (⟨"SelfArranger", "budget", "(I)V"⟩, prog_1_method_17_code, 2, none, (some []))
def m_L_costOf : gM := (⟨"SelfArrangerLaw", "costOf", "(LSelfArranger;I[J)I"⟩, method_15_code, 4, (some .int), (some [(0, 8, 11, 13)]))
def m_A_costOf : gM := (⟨"SelfArranger", "costOf", "(I)J"⟩, prog_1_method_19_code, 2, (some .long), (some []))
def m_L_build : gM := (⟨"SelfArrangerLaw", "build", "(LSelfArranger;I)I"⟩, method_16_code, 3, (some .int), (some [(0, 5, 8, 21), (0, 5, 11, 65)]))
def m_A_build : gM := (⟨"SelfArranger", "build", "(I)V"⟩, prog_1_method_20_code, 2, none, (some []))
def m_B_begin : gM := (⟨"SelfArranger$Builder", "begin", "(I)V"⟩, prog_3_method_4_code, 2, none, (some []))
def m_B_finishIfDone : gM := (⟨"SelfArranger$Builder", "finishIfDone", "()V"⟩, prog_3_method_8_code, 1, none, (some []))
def m_B_left : gM := (⟨"SelfArranger$Builder", "left", "()I"⟩, prog_3_method_7_code, 1, (some .int), (some []))
def m_L_work : gM := (⟨"SelfArrangerLaw", "work", "(LSelfArranger;I[J)I"⟩, method_17_code, 4, (some .int), (some [(0, 9, 12, 13), (0, 9, 15, 65)]))
def m_A_work : gM := (⟨"SelfArranger", "work", "(I)I"⟩, prog_1_method_21_code, 2, (some .int), (some []))
def m_B_handle : gM := (⟨"SelfArranger$Builder", "handle", "(I)I"⟩, prog_3_method_6_code, 3, (some .int), (some []))
def m_L_drop : gM := (⟨"SelfArrangerLaw", "drop", "(LSelfArranger;I[J)I"⟩, method_18_code, 4, (some .int), (some [(0, 16, 19, 21)]))
def m_A_drop : gM := (⟨"SelfArranger", "drop", "(I)Z"⟩, prog_1_method_22_code, 2, (some .boolean), (some []))
def m_B_discard : gM := (⟨"SelfArranger$Builder", "discard", "(I)Z"⟩, prog_3_method_9_code, 3, (some .boolean), (some []))
def m_M_init : gM := (⟨"SelfArrangerModel", "<init>", "(I)V"⟩, prog_13_method_1_code, 3, none, (some []))
def m_M_thrown : gM := (⟨"SelfArrangerModel", "thrown", "()I"⟩, prog_13_method_2_code, 1, (some .int), (some []))
def m_M_insert : gM := (⟨"SelfArrangerModel", "insert", "(III)I"⟩, prog_13_method_8_code, 5, (some .int), (some []))
def m_M_isValue : gM := (⟨"SelfArrangerModel", "isValue", "(I)Z"⟩, prog_13_method_3_code, 1, (some .boolean), (some []))
def m_M_note : gM := (⟨"SelfArrangerModel", "note", "(I)V"⟩, prog_13_method_7_code, 2, none, (some []))
def m_M_delete : gM := (⟨"SelfArrangerModel", "delete", "(I)V"⟩, prog_13_method_9_code, 2, none, (some []))
def m_M_isRow : gM := (⟨"SelfArrangerModel", "isRow", "(I)Z"⟩, prog_13_method_4_code, 2, (some .boolean), (some []))
def m_M_change : gM := (⟨"SelfArrangerModel", "change", "(III)V"⟩, prog_13_method_10_code, 4, none, (some []))
def m_M_isColumn : gM := (⟨"SelfArrangerModel", "isColumn", "(I)Z"⟩, prog_13_method_5_code, 1, (some .boolean), (some []))
def m_M_value : gM := (⟨"SelfArrangerModel", "value", "(II)I"⟩, prog_13_method_11_code, 3, (some .int), (some []))
def m_M_index : gM := (⟨"SelfArrangerModel", "index", "(II)I"⟩, prog_13_method_21_code, 3, (some .int), (some []))
def m_M_isIndex : gM := (⟨"SelfArrangerModel", "isIndex", "(I)Z"⟩, prog_13_method_6_code, 1, (some .boolean), (some []))
def m_M_height : gM := (⟨"SelfArrangerModel", "height", "()I"⟩, prog_13_method_19_code, 3, (some .int), (some []))
def m_M_leaves : gM := (⟨"SelfArrangerModel", "leaves", "()I"⟩, prog_13_method_18_code, 2, (some .int), (some []))
def m_M_live : gM := (⟨"SelfArrangerModel", "live", "()I"⟩, prog_13_method_16_code, 3, (some .int), (some []))
def m_M_byFour : gM := (⟨"SelfArrangerModel", "byFour", "(I)I"⟩, prog_13_method_17_code, 1, (some .int), (some []))
def m_M_sizeOfIndex : gM := (⟨"SelfArrangerModel", "sizeOfIndex", "()I"⟩, prog_13_method_20_code, 3, (some .int), (some []))
def m_M_sort : gM := (⟨"SelfArrangerModel", "sort", "(II)V"⟩, prog_13_method_15_code, 5, none, (some []))
def m_M_isBefore : gM := (⟨"SelfArrangerModel", "isBefore", "(IIII)Z"⟩, prog_13_method_14_code, 7, (some .boolean), (some []))
def m_M_of : gM := (⟨"SelfArrangerModel", "of", "(II)I"⟩, prog_13_method_13_code, 3, (some .int), (some []))
def m_M_cost : gM := (⟨"SelfArrangerModel", "cost", "(I)I"⟩, prog_13_method_33_code, 2, (some .int), (some []))
def m_M_heapPages : gM := (⟨"SelfArrangerModel", "heapPages", "()I"⟩, prog_13_method_12_code, 1, (some .int), (some []))
def m_M_isWay : gM := (⟨"SelfArrangerModel", "isWay", "(II)Z"⟩, prog_13_method_23_code, 3, (some .boolean), (some []))
def m_M_costBy : gM := (⟨"SelfArrangerModel", "costBy", "(II)I"⟩, prog_13_method_30_code, 3, (some .int), (some []))
def m_M_stretch : gM := (⟨"SelfArrangerModel", "stretch", "(II)V"⟩, prog_13_method_27_code, 3, none, (some []))
def m_M_isAhead : gM := (⟨"SelfArrangerModel", "isAhead", "(III)Z"⟩, prog_13_method_25_code, 8, (some .boolean), (some []))
def m_M_countsSecond : gM := (⟨"SelfArrangerModel", "countsSecond", "(II)Z"⟩, prog_13_method_24_code, 4, (some .boolean), (some []))
def m_M_isIn : gM := (⟨"SelfArrangerModel", "isIn", "(III)Z"⟩, prog_13_method_26_code, 4, (some .boolean), (some []))
def m_M_fits : gM := (⟨"SelfArrangerModel", "fits", "(III)Z"⟩, prog_13_method_22_code, 6, (some .boolean), (some []))
def m_M_leavesTouched : gM := (⟨"SelfArrangerModel", "leavesTouched", "()I"⟩, prog_13_method_29_code, 1, (some .int), (some []))
def m_M_where : gM := (⟨"SelfArrangerModel", "where", "(IIII)V"⟩, prog_13_method_34_code, 5, none, (some []))
def m_M_order : gM := (⟨"SelfArrangerModel", "order", "(II)V"⟩, prog_13_method_35_code, 3, none, (some []))
def m_M_ask : gM := (⟨"SelfArrangerModel", "ask", "()I"⟩, prog_13_method_41_code, 3, (some .int), (some []))
def m_M_wayOf : gM := (⟨"SelfArrangerModel", "wayOf", "(II)I"⟩, prog_13_method_31_code, 8, (some .int), (some []))
def m_M_costOfWay : gM := (⟨"SelfArrangerModel", "costOfWay", "(II)I"⟩, prog_13_method_32_code, 3, (some .int), (some []))
def m_M_touch : gM := (⟨"SelfArrangerModel", "touch", "(III)V"⟩, prog_13_method_36_code, 6, none, (some []))
def m_M_touchIndex : gM := (⟨"SelfArrangerModel", "touchIndex", "(I)V"⟩, prog_13_method_37_code, 7, none, (some []))
def m_M_firstLeaf : gM := (⟨"SelfArrangerModel", "firstLeaf", "()I"⟩, prog_13_method_28_code, 2, (some .int), (some []))
def m_M_remember : gM := (⟨"SelfArrangerModel", "remember", "()V"⟩, prog_13_method_40_code, 2, none, (some []))
def m_M_findShape : gM := (⟨"SelfArrangerModel", "findShape", "()I"⟩, prog_13_method_38_code, 2, (some .int), (some []))
def m_M_copyShape : gM := (⟨"SelfArrangerModel", "copyShape", "(II)V"⟩, prog_13_method_39_code, 4, none, (some []))
def m_M_answer : gM := (⟨"SelfArrangerModel", "answer", "(I)I"⟩, prog_13_method_42_code, 2, (some .int), (some []))
def m_M_last : gM := (⟨"SelfArrangerModel", "last", "(I)I"⟩, prog_13_method_43_code, 2, (some .int), (some []))
def m_M_shapes : gM := (⟨"SelfArrangerModel", "shapes", "()I"⟩, prog_13_method_44_code, 1, (some .int), (some []))
def m_M_shape : gM := (⟨"SelfArrangerModel", "shape", "(II)I"⟩, prog_13_method_45_code, 4, (some .int), (some []))
def m_M_changes : gM := (⟨"SelfArrangerModel", "changes", "()I"⟩, prog_13_method_46_code, 1, (some .int), (some []))
def m_M_period : gM := (⟨"SelfArrangerModel", "period", "()I"⟩, prog_13_method_47_code, 4, (some .int), (some []))
def m_M_budget : gM := (⟨"SelfArrangerModel", "budget", "(I)V"⟩, prog_13_method_48_code, 2, none, (some []))
def m_M_choose : gM := (⟨"SelfArrangerModel", "choose", "()I"⟩, prog_13_method_52_code, 8, (some .int), (some []))
def m_M_findCosts : gM := (⟨"SelfArrangerModel", "findCosts", "()V"⟩, prog_13_method_49_code, 3, none, (some []))
def m_M_sumOf : gM := (⟨"SelfArrangerModel", "sumOf", "(I)J"⟩, prog_13_method_51_code, 7, (some .long), (some []))
def m_M_members : gM := (⟨"SelfArrangerModel", "members", "(I)I"⟩, prog_13_method_50_code, 3, (some .int), (some []))
def m_M_costOf : gM := (⟨"SelfArrangerModel", "costOf", "(I)J"⟩, prog_13_method_53_code, 2, (some .long), (some []))
def m_M_build : gM := (⟨"SelfArrangerModel", "build", "(I)V"⟩, prog_13_method_55_code, 2, none, (some []))
def m_M_settle : gM := (⟨"SelfArrangerModel", "settle", "()I"⟩, prog_13_method_56_code, 2, (some .int), (some []))
def m_M_leftToDo : gM := (⟨"SelfArrangerModel", "leftToDo", "()I"⟩, prog_13_method_54_code, 1, (some .int), (some []))
def m_M_work : gM := (⟨"SelfArrangerModel", "work", "(I)I"⟩, prog_13_method_57_code, 3, (some .int), (some []))
def m_M_drop : gM := (⟨"SelfArrangerModel", "drop", "(I)Z"⟩, prog_13_method_58_code, 2, (some .boolean), (some []))
def m_L_law : gM := (⟨"SelfArrangerLaw", "law", "([I)Z"⟩, code, 8, (some .boolean), none)
def T_A : u_T := fun k => match k with
  | 0 => ("SelfArranger", "table", "LSelfArranger$Table;", true)
  | 1 => ("SelfArranger", "conditions", "LSelfArranger$Conditions;", true)
  | 2 => ("SelfArranger", "stretch", "LSelfArranger$Stretch;", true)
  | 3 => ("SelfArranger", "wayCosts", "LSelfArranger$WayCosts;", true)
  | 4 => ("SelfArranger", "pool", "LSelfArranger$Pool;", true)
  | 5 => ("SelfArranger", "ledger", "LSelfArranger$Ledger;", true)
  | 6 => ("SelfArranger", "adviser", "LSelfArranger$Adviser;", true)
  | 7 => ("SelfArranger", "builder", "LSelfArranger$Builder;", true)
  | 8 => ("SelfArranger", "found", "LSelfArranger$RowList;", true)
  | 9 => ("SelfArranger", "orderColumn", "I", false)
  | 10 => ("SelfArranger", "rowLimit", "I", false)
  | 11 => ("SelfArranger", "budgetPages", "I", false)
  | 12 => ("SelfArranger", "lastWay", "I", false)
  | _ => ("SelfArranger", "lastCost", "I", false)
def ty_A : Nat → FieldType := fun k => match k with
  | 0 => (.object "SelfArranger$Table")
  | 1 => (.object "SelfArranger$Conditions")
  | 2 => (.object "SelfArranger$Stretch")
  | 3 => (.object "SelfArranger$WayCosts")
  | 4 => (.object "SelfArranger$Pool")
  | 5 => (.object "SelfArranger$Ledger")
  | 6 => (.object "SelfArranger$Adviser")
  | 7 => (.object "SelfArranger$Builder")
  | 8 => (.object "SelfArranger$RowList")
  | 9 => .int
  | 10 => .int
  | 11 => .int
  | 12 => .int
  | _ => .int
theorem nm_A : ∀ a, a < 14 → ∀ b, b < 14 → a ≠ b → (T_A a).2.1 ≠ (T_A b).2.1 := by decide +kernel
theorem tyok_A : ∀ k, k < 14 → parseFieldDescriptor (T_A k).2.2.1 = some (ty_A k) := by decide +kernel
def T_T : u_T := fun k => match k with
  | 0 => ("SelfArranger$Table", "values", "[I", true)
  | 1 => ("SelfArranger$Table", "there", "[Z", true)
  | 2 => ("SelfArranger$Table", "inserted", "I", false)
  | _ => ("SelfArranger$Table", "rowsThere", "I", false)
def ty_T : Nat → FieldType := fun k => match k with
  | 0 => (.array .int)
  | 1 => (.array .boolean)
  | 2 => .int
  | _ => .int
theorem nm_T : ∀ a, a < 4 → ∀ b, b < 4 → a ≠ b → (T_T a).2.1 ≠ (T_T b).2.1 := by decide +kernel
theorem tyok_T : ∀ k, k < 4 → parseFieldDescriptor (T_T k).2.2.1 = some (ty_T k) := by decide +kernel
def T_C : u_T := fun k => match k with
  | 0 => ("SelfArranger$Conditions", "kinds", "[I", true)
  | 1 => ("SelfArranger$Conditions", "froms", "[I", true)
  | _ => ("SelfArranger$Conditions", "tos", "[I", true)
def ty_C : Nat → FieldType := fun k => match k with
  | 0 => (.array .int)
  | 1 => (.array .int)
  | _ => (.array .int)
theorem nm_C : ∀ a, a < 3 → ∀ b, b < 3 → a ≠ b → (T_C a).2.1 ≠ (T_C b).2.1 := by decide +kernel
theorem tyok_C : ∀ k, k < 3 → parseFieldDescriptor (T_C k).2.2.1 = some (ty_C k) := by decide +kernel
def T_S : u_T := fun k => match k with
  | 0 => ("SelfArranger$Stretch", "table", "LSelfArranger$Table;", true)
  | 1 => ("SelfArranger$Stretch", "entries", "LSelfArranger$RowList;", true)
  | 2 => ("SelfArranger$Stretch", "first", "I", false)
  | 3 => ("SelfArranger$Stretch", "second", "I", false)
  | 4 => ("SelfArranger$Stretch", "secondCounts", "Z", false)
  | _ => ("SelfArranger$Stretch", "before", "I", false)
def ty_S : Nat → FieldType := fun k => match k with
  | 0 => (.object "SelfArranger$Table")
  | 1 => (.object "SelfArranger$RowList")
  | 2 => .int
  | 3 => .int
  | 4 => .boolean
  | _ => .int
theorem nm_S : ∀ a, a < 6 → ∀ b, b < 6 → a ≠ b → (T_S a).2.1 ≠ (T_S b).2.1 := by decide +kernel
theorem tyok_S : ∀ k, k < 6 → parseFieldDescriptor (T_S k).2.2.1 = some (ty_S k) := by decide +kernel
def T_W : u_T := fun k => match k with
  | 0 => ("SelfArranger$WayCosts", "byIndex", "[I", true)
  | _ => ("SelfArranger$WayCosts", "heap", "I", false)
def ty_W : Nat → FieldType := fun k => match k with
  | 0 => (.array .int)
  | _ => .int
theorem nm_W : ∀ a, a < 2 → ∀ b, b < 2 → a ≠ b → (T_W a).2.1 ≠ (T_W b).2.1 := by decide +kernel
theorem tyok_W : ∀ k, k < 2 → parseFieldDescriptor (T_W k).2.2.1 = some (ty_W k) := by decide +kernel
def T_P : u_T := fun k => match k with
  | 0 => ("SelfArranger$Pool", "pages", "[I", true)
  | 1 => ("SelfArranger$Pool", "marked", "[Z", true)
  | 2 => ("SelfArranger$Pool", "hand", "I", false)
  | 3 => ("SelfArranger$Pool", "touched", "I", false)
  | _ => ("SelfArranger$Pool", "misses", "I", false)
def ty_P : Nat → FieldType := fun k => match k with
  | 0 => (.array .int)
  | 1 => (.array .boolean)
  | 2 => .int
  | 3 => .int
  | _ => .int
theorem nm_P : ∀ a, a < 5 → ∀ b, b < 5 → a ≠ b → (T_P a).2.1 ≠ (T_P b).2.1 := by decide +kernel
theorem tyok_P : ∀ k, k < 5 → parseFieldDescriptor (T_P k).2.2.1 = some (ty_P k) := by decide +kernel
def T_D : u_T := fun k => match k with
  | 0 => ("SelfArranger$Ledger", "shapes", "[LSelfArranger$Shape;", true)
  | 1 => ("SelfArranger$Ledger", "count", "I", false)
  | _ => ("SelfArranger$Ledger", "changesWeight", "I", false)
def ty_D : Nat → FieldType := fun k => match k with
  | 0 => (.array (.object "SelfArranger$Shape"))
  | 1 => .int
  | _ => .int
theorem nm_D : ∀ a, a < 3 → ∀ b, b < 3 → a ≠ b → (T_D a).2.1 ≠ (T_D b).2.1 := by decide +kernel
theorem tyok_D : ∀ k, k < 3 → parseFieldDescriptor (T_D k).2.2.1 = some (ty_D k) := by decide +kernel
def T_V : u_T := fun k => match k with
  | 0 => ("SelfArranger$Adviser", "table", "LSelfArranger$Table;", true)
  | 1 => ("SelfArranger$Adviser", "stretch", "LSelfArranger$Stretch;", true)
  | _ => ("SelfArranger$Adviser", "ledger", "LSelfArranger$Ledger;", true)
def ty_V : Nat → FieldType := fun k => match k with
  | 0 => (.object "SelfArranger$Table")
  | 1 => (.object "SelfArranger$Stretch")
  | _ => (.object "SelfArranger$Ledger")
theorem nm_V : ∀ a, a < 3 → ∀ b, b < 3 → a ≠ b → (T_V a).2.1 ≠ (T_V b).2.1 := by decide +kernel
theorem tyok_V : ∀ k, k < 3 → parseFieldDescriptor (T_V k).2.2.1 = some (ty_V k) := by decide +kernel
def T_B : u_T := fun k => match k with
  | 0 => ("SelfArranger$Builder", "table", "LSelfArranger$Table;", true)
  | 1 => ("SelfArranger$Builder", "states", "[I", true)
  | 2 => ("SelfArranger$Builder", "building", "I", false)
  | 3 => ("SelfArranger$Builder", "handled", "I", false)
  | _ => ("SelfArranger$Builder", "sideLength", "I", false)
def ty_B : Nat → FieldType := fun k => match k with
  | 0 => (.object "SelfArranger$Table")
  | 1 => (.array .int)
  | 2 => .int
  | 3 => .int
  | _ => .int
theorem nm_B : ∀ a, a < 5 → ∀ b, b < 5 → a ≠ b → (T_B a).2.1 ≠ (T_B b).2.1 := by decide +kernel
theorem tyok_B : ∀ k, k < 5 → parseFieldDescriptor (T_B k).2.2.1 = some (ty_B k) := by decide +kernel
def T_R : u_T := fun k => match k with
  | 0 => ("SelfArranger$RowList", "rows", "[I", true)
  | _ => ("SelfArranger$RowList", "count", "I", false)
def ty_R : Nat → FieldType := fun k => match k with
  | 0 => (.array .int)
  | _ => .int
theorem nm_R : ∀ a, a < 2 → ∀ b, b < 2 → a ≠ b → (T_R a).2.1 ≠ (T_R b).2.1 := by decide +kernel
theorem tyok_R : ∀ k, k < 2 → parseFieldDescriptor (T_R k).2.2.1 = some (ty_R k) := by decide +kernel
def T_H : u_T := fun k => match k with
  | 0 => ("SelfArranger$Shape", "kept", "LSelfArranger$Conditions;", true)
  | 1 => ("SelfArranger$Shape", "wayCosts", "LSelfArranger$WayCosts;", true)
  | _ => ("SelfArranger$Shape", "weight", "I", false)
def ty_H : Nat → FieldType := fun k => match k with
  | 0 => (.object "SelfArranger$Conditions")
  | 1 => (.object "SelfArranger$WayCosts")
  | _ => .int
theorem nm_H : ∀ a, a < 3 → ∀ b, b < 3 → a ≠ b → (T_H a).2.1 ≠ (T_H b).2.1 := by decide +kernel
theorem tyok_H : ∀ k, k < 3 → parseFieldDescriptor (T_H k).2.2.1 = some (ty_H k) := by decide +kernel
def T_M : u_T := fun k => match k with
  | 0 => ("SelfArrangerModel", "thrown", "I", false)
  | 1 => ("SelfArrangerModel", "inserted", "I", false)
  | 2 => ("SelfArrangerModel", "there", "[Z", true)
  | 3 => ("SelfArrangerModel", "values", "[I", true)
  | 4 => ("SelfArrangerModel", "firstColumn", "[I", true)
  | 5 => ("SelfArrangerModel", "secondColumn", "[I", true)
  | 6 => ("SelfArrangerModel", "state", "[I", true)
  | 7 => ("SelfArrangerModel", "building", "I", false)
  | 8 => ("SelfArrangerModel", "handled", "I", false)
  | 9 => ("SelfArrangerModel", "side", "I", false)
  | 10 => ("SelfArrangerModel", "kinds", "[I", true)
  | 11 => ("SelfArrangerModel", "froms", "[I", true)
  | 12 => ("SelfArrangerModel", "tos", "[I", true)
  | 13 => ("SelfArrangerModel", "orderColumn", "I", false)
  | 14 => ("SelfArrangerModel", "limit", "I", false)
  | 15 => ("SelfArrangerModel", "shapes", "I", false)
  | 16 => ("SelfArrangerModel", "weights", "[I", true)
  | 17 => ("SelfArrangerModel", "changes", "I", false)
  | 18 => ("SelfArrangerModel", "budget", "I", false)
  | 19 => ("SelfArrangerModel", "frames", "I", true)
  | 20 => ("SelfArrangerModel", "pages", "[I", true)
  | 21 => ("SelfArrangerModel", "marked", "[Z", true)
  | 22 => ("SelfArrangerModel", "hand", "I", false)
  | 23 => ("SelfArrangerModel", "answer", "[I", true)
  | 24 => ("SelfArrangerModel", "answered", "I", false)
  | 25 => ("SelfArrangerModel", "lastWay", "I", false)
  | 26 => ("SelfArrangerModel", "lastCost", "I", false)
  | 27 => ("SelfArrangerModel", "touches", "I", false)
  | 28 => ("SelfArrangerModel", "misses", "I", false)
  | 29 => ("SelfArrangerModel", "entries", "[I", true)
  | 30 => ("SelfArrangerModel", "size", "I", false)
  | 31 => ("SelfArrangerModel", "begin", "I", false)
  | 32 => ("SelfArrangerModel", "end", "I", false)
  | _ => ("SelfArrangerModel", "costs", "[I", true)
def ty_M : Nat → FieldType := fun k => match k with
  | 0 => .int
  | 1 => .int
  | 2 => (.array .boolean)
  | 3 => (.array .int)
  | 4 => (.array .int)
  | 5 => (.array .int)
  | 6 => (.array .int)
  | 7 => .int
  | 8 => .int
  | 9 => .int
  | 10 => (.array .int)
  | 11 => (.array .int)
  | 12 => (.array .int)
  | 13 => .int
  | 14 => .int
  | 15 => .int
  | 16 => (.array .int)
  | 17 => .int
  | 18 => .int
  | 19 => .int
  | 20 => (.array .int)
  | 21 => (.array .boolean)
  | 22 => .int
  | 23 => (.array .int)
  | 24 => .int
  | 25 => .int
  | 26 => .int
  | 27 => .int
  | 28 => .int
  | 29 => (.array .int)
  | 30 => .int
  | 31 => .int
  | 32 => .int
  | _ => (.array .int)
theorem nm_M : ∀ a, a < 34 → ∀ b, b < 34 → a ≠ b → (T_M a).2.1 ≠ (T_M b).2.1 := by decide +kernel
theorem tyok_M : ∀ k, k < 34 → parseFieldDescriptor (T_M k).2.2.1 = some (ty_M k) := by decide +kernel
abbrev vwCl : List vw_C := [("SelfArranger", T_A, 14), ("SelfArranger$Table", T_T, 4), ("SelfArranger$Conditions", T_C, 3), ("SelfArranger$Stretch", T_S, 6), ("SelfArranger$WayCosts", T_W, 2), ("SelfArranger$Pool", T_P, 5), ("SelfArranger$Ledger", T_D, 3), ("SelfArranger$Adviser", T_V, 3), ("SelfArranger$Builder", T_B, 5), ("SelfArranger$RowList", T_R, 2), ("SelfArranger$Shape", T_H, 3), ("SelfArrangerModel", T_M, 34)]
end
section
/-! decode rows (wip/emit.py) -/
theorem d_A_init_0 : gD m_A_init 0 (.aload_n 0) 1 1 := ⟨by decide +kernel, rfl⟩
theorem d_A_init_1 : gD m_A_init 1 (.invokespecial 3) 3 4 := ⟨by decide +kernel, rfl⟩
theorem d_A_init_4 : gD m_A_init 4 (.aload_n 0) 1 5 := ⟨by decide +kernel, rfl⟩
theorem d_A_init_5 : gD m_A_init 5 (.new 9) 3 8 := ⟨by decide +kernel, rfl⟩
theorem d_A_init_8 : gD m_A_init 8 .dup 1 9 := ⟨by decide +kernel, rfl⟩
theorem d_A_init_9 : gD m_A_init 9 (.invokespecial 11) 3 12 := ⟨by decide +kernel, rfl⟩
theorem d_A_init_12 : gD m_A_init 12 (.putfield 12) 3 15 := ⟨by decide +kernel, rfl⟩
theorem d_A_init_15 : gD m_A_init 15 (.aload_n 0) 1 16 := ⟨by decide +kernel, rfl⟩
theorem d_A_init_16 : gD m_A_init 16 (.new 16) 3 19 := ⟨by decide +kernel, rfl⟩
theorem d_A_init_19 : gD m_A_init 19 .dup 1 20 := ⟨by decide +kernel, rfl⟩
theorem d_A_init_20 : gD m_A_init 20 (.invokespecial 18) 3 23 := ⟨by decide +kernel, rfl⟩
theorem d_A_init_23 : gD m_A_init 23 (.putfield 19) 3 26 := ⟨by decide +kernel, rfl⟩
theorem d_A_init_26 : gD m_A_init 26 (.aload_n 0) 1 27 := ⟨by decide +kernel, rfl⟩
theorem d_A_init_27 : gD m_A_init 27 (.new 23) 3 30 := ⟨by decide +kernel, rfl⟩
theorem d_A_init_30 : gD m_A_init 30 .dup 1 31 := ⟨by decide +kernel, rfl⟩
theorem d_A_init_31 : gD m_A_init 31 (.aload_n 0) 1 32 := ⟨by decide +kernel, rfl⟩
theorem d_A_init_32 : gD m_A_init 32 (.getfield 12) 3 35 := ⟨by decide +kernel, rfl⟩
theorem d_A_init_35 : gD m_A_init 35 (.invokespecial 25) 3 38 := ⟨by decide +kernel, rfl⟩
theorem d_A_init_38 : gD m_A_init 38 (.putfield 28) 3 41 := ⟨by decide +kernel, rfl⟩
theorem d_A_init_41 : gD m_A_init 41 (.aload_n 0) 1 42 := ⟨by decide +kernel, rfl⟩
theorem d_A_init_42 : gD m_A_init 42 (.new 32) 3 45 := ⟨by decide +kernel, rfl⟩
theorem d_A_init_45 : gD m_A_init 45 .dup 1 46 := ⟨by decide +kernel, rfl⟩
theorem d_A_init_46 : gD m_A_init 46 (.invokespecial 34) 3 49 := ⟨by decide +kernel, rfl⟩
theorem d_A_init_49 : gD m_A_init 49 (.putfield 35) 3 52 := ⟨by decide +kernel, rfl⟩
theorem d_A_init_52 : gD m_A_init 52 (.aload_n 0) 1 53 := ⟨by decide +kernel, rfl⟩
theorem d_A_init_53 : gD m_A_init 53 (.new 39) 3 56 := ⟨by decide +kernel, rfl⟩
theorem d_A_init_56 : gD m_A_init 56 .dup 1 57 := ⟨by decide +kernel, rfl⟩
theorem d_A_init_57 : gD m_A_init 57 (.iload_n 1) 1 58 := ⟨by decide +kernel, rfl⟩
theorem d_A_init_58 : gD m_A_init 58 (.invokespecial 41) 3 61 := ⟨by decide +kernel, rfl⟩
theorem d_A_init_61 : gD m_A_init 61 (.putfield 44) 3 64 := ⟨by decide +kernel, rfl⟩
theorem d_A_init_64 : gD m_A_init 64 (.aload_n 0) 1 65 := ⟨by decide +kernel, rfl⟩
theorem d_A_init_65 : gD m_A_init 65 (.new 48) 3 68 := ⟨by decide +kernel, rfl⟩
theorem d_A_init_68 : gD m_A_init 68 .dup 1 69 := ⟨by decide +kernel, rfl⟩
theorem d_A_init_69 : gD m_A_init 69 (.invokespecial 50) 3 72 := ⟨by decide +kernel, rfl⟩
theorem d_A_init_72 : gD m_A_init 72 (.putfield 51) 3 75 := ⟨by decide +kernel, rfl⟩
theorem d_A_init_75 : gD m_A_init 75 (.aload_n 0) 1 76 := ⟨by decide +kernel, rfl⟩
theorem d_A_init_76 : gD m_A_init 76 (.new 55) 3 79 := ⟨by decide +kernel, rfl⟩
theorem d_A_init_79 : gD m_A_init 79 .dup 1 80 := ⟨by decide +kernel, rfl⟩
theorem d_A_init_80 : gD m_A_init 80 (.aload_n 0) 1 81 := ⟨by decide +kernel, rfl⟩
theorem d_A_init_81 : gD m_A_init 81 (.getfield 12) 3 84 := ⟨by decide +kernel, rfl⟩
theorem d_A_init_84 : gD m_A_init 84 (.aload_n 0) 1 85 := ⟨by decide +kernel, rfl⟩
theorem d_A_init_85 : gD m_A_init 85 (.getfield 28) 3 88 := ⟨by decide +kernel, rfl⟩
theorem d_A_init_88 : gD m_A_init 88 (.aload_n 0) 1 89 := ⟨by decide +kernel, rfl⟩
theorem d_A_init_89 : gD m_A_init 89 (.getfield 51) 3 92 := ⟨by decide +kernel, rfl⟩
theorem d_A_init_92 : gD m_A_init 92 (.invokespecial 57) 3 95 := ⟨by decide +kernel, rfl⟩
theorem d_A_init_95 : gD m_A_init 95 (.putfield 60) 3 98 := ⟨by decide +kernel, rfl⟩
theorem d_A_init_98 : gD m_A_init 98 (.aload_n 0) 1 99 := ⟨by decide +kernel, rfl⟩
theorem d_A_init_99 : gD m_A_init 99 (.new 64) 3 102 := ⟨by decide +kernel, rfl⟩
theorem d_A_init_102 : gD m_A_init 102 .dup 1 103 := ⟨by decide +kernel, rfl⟩
theorem d_A_init_103 : gD m_A_init 103 (.aload_n 0) 1 104 := ⟨by decide +kernel, rfl⟩
theorem d_A_init_104 : gD m_A_init 104 (.getfield 12) 3 107 := ⟨by decide +kernel, rfl⟩
theorem d_A_init_107 : gD m_A_init 107 (.invokespecial 66) 3 110 := ⟨by decide +kernel, rfl⟩
theorem d_A_init_110 : gD m_A_init 110 (.putfield 67) 3 113 := ⟨by decide +kernel, rfl⟩
theorem d_A_init_113 : gD m_A_init 113 (.aload_n 0) 1 114 := ⟨by decide +kernel, rfl⟩
theorem d_A_init_114 : gD m_A_init 114 (.new 71) 3 117 := ⟨by decide +kernel, rfl⟩
theorem d_A_init_117 : gD m_A_init 117 .dup 1 118 := ⟨by decide +kernel, rfl⟩
theorem d_A_init_118 : gD m_A_init 118 (.invokespecial 73) 3 121 := ⟨by decide +kernel, rfl⟩
theorem d_A_init_121 : gD m_A_init 121 (.putfield 74) 3 124 := ⟨by decide +kernel, rfl⟩
theorem d_A_init_124 : gD m_A_init 124 (.aload_n 0) 1 125 := ⟨by decide +kernel, rfl⟩
theorem d_A_init_125 : gD m_A_init 125 (.iconst (-1)) 1 126 := ⟨by decide +kernel, rfl⟩
theorem d_A_init_126 : gD m_A_init 126 (.putfield 78) 3 129 := ⟨by decide +kernel, rfl⟩
theorem d_A_init_129 : gD m_A_init 129 (.aload_n 0) 1 130 := ⟨by decide +kernel, rfl⟩
theorem d_A_init_130 : gD m_A_init 130 (.bipush 64) 2 132 := ⟨by decide +kernel, rfl⟩
theorem d_A_init_132 : gD m_A_init 132 (.putfield 82) 3 135 := ⟨by decide +kernel, rfl⟩
theorem d_A_init_135 : gD m_A_init 135 (.aload_n 0) 1 136 := ⟨by decide +kernel, rfl⟩
theorem d_A_init_136 : gD m_A_init 136 (.bipush 16) 2 138 := ⟨by decide +kernel, rfl⟩
theorem d_A_init_138 : gD m_A_init 138 (.putfield 85) 3 141 := ⟨by decide +kernel, rfl⟩
theorem d_A_init_141 : gD m_A_init 141 (.aload_n 0) 1 142 := ⟨by decide +kernel, rfl⟩
theorem d_A_init_142 : gD m_A_init 142 (.iconst (-1)) 1 143 := ⟨by decide +kernel, rfl⟩
theorem d_A_init_143 : gD m_A_init 143 (.putfield 88) 3 146 := ⟨by decide +kernel, rfl⟩
theorem d_A_init_146 : gD m_A_init 146 .return_ 1 147 := ⟨by decide +kernel, rfl⟩
theorem d_T_init_0 : gD m_T_init 0 (.aload_n 0) 1 1 := ⟨by decide +kernel, rfl⟩
theorem d_T_init_1 : gD m_T_init 1 (.invokespecial 3) 3 4 := ⟨by decide +kernel, rfl⟩
theorem d_T_init_4 : gD m_T_init 4 (.aload_n 0) 1 5 := ⟨by decide +kernel, rfl⟩
theorem d_T_init_5 : gD m_T_init 5 (.sipush 192) 3 8 := ⟨by decide +kernel, rfl⟩
theorem d_T_init_8 : gD m_T_init 8 (.newarray .int) 2 10 := ⟨by decide +kernel, rfl⟩
theorem d_T_init_10 : gD m_T_init 10 (.putfield 9) 3 13 := ⟨by decide +kernel, rfl⟩
theorem d_T_init_13 : gD m_T_init 13 (.aload_n 0) 1 14 := ⟨by decide +kernel, rfl⟩
theorem d_T_init_14 : gD m_T_init 14 (.bipush 64) 2 16 := ⟨by decide +kernel, rfl⟩
theorem d_T_init_16 : gD m_T_init 16 (.newarray .boolean) 2 18 := ⟨by decide +kernel, rfl⟩
theorem d_T_init_18 : gD m_T_init 18 (.putfield 15) 3 21 := ⟨by decide +kernel, rfl⟩
theorem d_T_init_21 : gD m_T_init 21 .return_ 1 22 := ⟨by decide +kernel, rfl⟩
theorem d_C_init_0 : gD m_C_init 0 (.aload_n 0) 1 1 := ⟨by decide +kernel, rfl⟩
theorem d_C_init_1 : gD m_C_init 1 (.invokespecial 3) 3 4 := ⟨by decide +kernel, rfl⟩
theorem d_C_init_4 : gD m_C_init 4 (.aload_n 0) 1 5 := ⟨by decide +kernel, rfl⟩
theorem d_C_init_5 : gD m_C_init 5 (.iconst 3) 1 6 := ⟨by decide +kernel, rfl⟩
theorem d_C_init_6 : gD m_C_init 6 (.newarray .int) 2 8 := ⟨by decide +kernel, rfl⟩
theorem d_C_init_8 : gD m_C_init 8 (.putfield 9) 3 11 := ⟨by decide +kernel, rfl⟩
theorem d_C_init_11 : gD m_C_init 11 (.aload_n 0) 1 12 := ⟨by decide +kernel, rfl⟩
theorem d_C_init_12 : gD m_C_init 12 (.iconst 3) 1 13 := ⟨by decide +kernel, rfl⟩
theorem d_C_init_13 : gD m_C_init 13 (.newarray .int) 2 15 := ⟨by decide +kernel, rfl⟩
theorem d_C_init_15 : gD m_C_init 15 (.putfield 15) 3 18 := ⟨by decide +kernel, rfl⟩
theorem d_C_init_18 : gD m_C_init 18 (.aload_n 0) 1 19 := ⟨by decide +kernel, rfl⟩
theorem d_C_init_19 : gD m_C_init 19 (.iconst 3) 1 20 := ⟨by decide +kernel, rfl⟩
theorem d_C_init_20 : gD m_C_init 20 (.newarray .int) 2 22 := ⟨by decide +kernel, rfl⟩
theorem d_C_init_22 : gD m_C_init 22 (.putfield 18) 3 25 := ⟨by decide +kernel, rfl⟩
theorem d_C_init_25 : gD m_C_init 25 .return_ 1 26 := ⟨by decide +kernel, rfl⟩
theorem d_S_init_0 : gD m_S_init 0 (.aload_n 0) 1 1 := ⟨by decide +kernel, rfl⟩
theorem d_S_init_1 : gD m_S_init 1 (.invokespecial 3) 3 4 := ⟨by decide +kernel, rfl⟩
theorem d_S_init_4 : gD m_S_init 4 (.aload_n 0) 1 5 := ⟨by decide +kernel, rfl⟩
theorem d_S_init_5 : gD m_S_init 5 (.new 9) 3 8 := ⟨by decide +kernel, rfl⟩
theorem d_S_init_8 : gD m_S_init 8 .dup 1 9 := ⟨by decide +kernel, rfl⟩
theorem d_S_init_9 : gD m_S_init 9 (.invokespecial 11) 3 12 := ⟨by decide +kernel, rfl⟩
theorem d_S_init_12 : gD m_S_init 12 (.putfield 12) 3 15 := ⟨by decide +kernel, rfl⟩
theorem d_S_init_15 : gD m_S_init 15 (.aload_n 0) 1 16 := ⟨by decide +kernel, rfl⟩
theorem d_S_init_16 : gD m_S_init 16 (.aload_n 1) 1 17 := ⟨by decide +kernel, rfl⟩
theorem d_S_init_17 : gD m_S_init 17 (.putfield 18) 3 20 := ⟨by decide +kernel, rfl⟩
theorem d_S_init_20 : gD m_S_init 20 .return_ 1 21 := ⟨by decide +kernel, rfl⟩
theorem d_R_init_0 : gD m_R_init 0 (.aload_n 0) 1 1 := ⟨by decide +kernel, rfl⟩
theorem d_R_init_1 : gD m_R_init 1 (.invokespecial 3) 3 4 := ⟨by decide +kernel, rfl⟩
theorem d_R_init_4 : gD m_R_init 4 (.aload_n 0) 1 5 := ⟨by decide +kernel, rfl⟩
theorem d_R_init_5 : gD m_R_init 5 (.bipush 64) 2 7 := ⟨by decide +kernel, rfl⟩
theorem d_R_init_7 : gD m_R_init 7 (.newarray .int) 2 9 := ⟨by decide +kernel, rfl⟩
theorem d_R_init_9 : gD m_R_init 9 (.putfield 9) 3 12 := ⟨by decide +kernel, rfl⟩
theorem d_R_init_12 : gD m_R_init 12 .return_ 1 13 := ⟨by decide +kernel, rfl⟩
theorem d_W_init_0 : gD m_W_init 0 (.aload_n 0) 1 1 := ⟨by decide +kernel, rfl⟩
theorem d_W_init_1 : gD m_W_init 1 (.invokespecial 3) 3 4 := ⟨by decide +kernel, rfl⟩
theorem d_W_init_4 : gD m_W_init 4 (.aload_n 0) 1 5 := ⟨by decide +kernel, rfl⟩
theorem d_W_init_5 : gD m_W_init 5 (.bipush 9) 2 7 := ⟨by decide +kernel, rfl⟩
theorem d_W_init_7 : gD m_W_init 7 (.newarray .int) 2 9 := ⟨by decide +kernel, rfl⟩
theorem d_W_init_9 : gD m_W_init 9 (.putfield 9) 3 12 := ⟨by decide +kernel, rfl⟩
theorem d_W_init_12 : gD m_W_init 12 .return_ 1 13 := ⟨by decide +kernel, rfl⟩
theorem d_P_init_0 : gD m_P_init 0 (.aload_n 0) 1 1 := ⟨by decide +kernel, rfl⟩
theorem d_P_init_1 : gD m_P_init 1 (.invokespecial 3) 3 4 := ⟨by decide +kernel, rfl⟩
theorem d_P_init_4 : gD m_P_init 4 (.iconst 2) 1 5 := ⟨by decide +kernel, rfl⟩
theorem d_P_init_5 : gD m_P_init 5 (.bipush 16) 2 7 := ⟨by decide +kernel, rfl⟩
theorem d_P_init_7 : gD m_P_init 7 (.iload_n 1) 1 8 := ⟨by decide +kernel, rfl⟩
theorem d_P_init_8 : gD m_P_init 8 (.invokestatic 11) 3 11 := ⟨by decide +kernel, rfl⟩
theorem d_P_init_11 : gD m_P_init 11 (.invokestatic 17) 3 14 := ⟨by decide +kernel, rfl⟩
theorem d_P_init_14 : gD m_P_init 14 (.istore_n 2) 1 15 := ⟨by decide +kernel, rfl⟩
theorem d_P_init_15 : gD m_P_init 15 (.aload_n 0) 1 16 := ⟨by decide +kernel, rfl⟩
theorem d_P_init_16 : gD m_P_init 16 (.iload_n 2) 1 17 := ⟨by decide +kernel, rfl⟩
theorem d_P_init_17 : gD m_P_init 17 (.newarray .int) 2 19 := ⟨by decide +kernel, rfl⟩
theorem d_P_init_19 : gD m_P_init 19 (.putfield 20) 3 22 := ⟨by decide +kernel, rfl⟩
theorem d_P_init_22 : gD m_P_init 22 (.aload_n 0) 1 23 := ⟨by decide +kernel, rfl⟩
theorem d_P_init_23 : gD m_P_init 23 (.iload_n 2) 1 24 := ⟨by decide +kernel, rfl⟩
theorem d_P_init_24 : gD m_P_init 24 (.newarray .boolean) 2 26 := ⟨by decide +kernel, rfl⟩
theorem d_P_init_26 : gD m_P_init 26 (.putfield 24) 3 29 := ⟨by decide +kernel, rfl⟩
theorem d_P_init_29 : gD m_P_init 29 (.iconst 0) 1 30 := ⟨by decide +kernel, rfl⟩
theorem d_P_init_30 : gD m_P_init 30 (.istore_n 3) 1 31 := ⟨by decide +kernel, rfl⟩
theorem d_P_init_31 : gD m_P_init 31 (.iload_n 3) 1 32 := ⟨by decide +kernel, rfl⟩
theorem d_P_init_32 : gD m_P_init 32 (.iload_n 2) 1 33 := ⟨by decide +kernel, rfl⟩
theorem d_P_init_33 : gD m_P_init 33 (.if_icmp .ge 16) 3 36 := ⟨by decide +kernel, rfl⟩
theorem d_P_init_36 : gD m_P_init 36 (.aload_n 0) 1 37 := ⟨by decide +kernel, rfl⟩
theorem d_P_init_37 : gD m_P_init 37 (.getfield 20) 3 40 := ⟨by decide +kernel, rfl⟩
theorem d_P_init_40 : gD m_P_init 40 (.iload_n 3) 1 41 := ⟨by decide +kernel, rfl⟩
theorem d_P_init_41 : gD m_P_init 41 (.iconst (-1)) 1 42 := ⟨by decide +kernel, rfl⟩
theorem d_P_init_42 : gD m_P_init 42 .iastore 1 43 := ⟨by decide +kernel, rfl⟩
theorem d_P_init_43 : gD m_P_init 43 (.iinc 3 1) 3 46 := ⟨by decide +kernel, rfl⟩
theorem d_P_init_46 : gD m_P_init 46 (.goto (-15)) 3 49 := ⟨by decide +kernel, rfl⟩
theorem d_P_init_49 : gD m_P_init 49 .return_ 1 50 := ⟨by decide +kernel, rfl⟩
theorem d_J_min_0 : gD m_J_min 0 (.iload_n 0) 1 1 := ⟨by decide +kernel, rfl⟩
theorem d_J_min_1 : gD m_J_min 1 (.iload_n 1) 1 2 := ⟨by decide +kernel, rfl⟩
theorem d_J_min_2 : gD m_J_min 2 (.if_icmp .gt 7) 3 5 := ⟨by decide +kernel, rfl⟩
theorem d_J_min_5 : gD m_J_min 5 (.iload_n 0) 1 6 := ⟨by decide +kernel, rfl⟩
theorem d_J_min_6 : gD m_J_min 6 (.goto 4) 3 9 := ⟨by decide +kernel, rfl⟩
theorem d_J_min_9 : gD m_J_min 9 (.iload_n 1) 1 10 := ⟨by decide +kernel, rfl⟩
theorem d_J_min_10 : gD m_J_min 10 .ireturn 1 11 := ⟨by decide +kernel, rfl⟩
theorem d_J_max_0 : gD m_J_max 0 (.iload_n 0) 1 1 := ⟨by decide +kernel, rfl⟩
theorem d_J_max_1 : gD m_J_max 1 (.iload_n 1) 1 2 := ⟨by decide +kernel, rfl⟩
theorem d_J_max_2 : gD m_J_max 2 (.if_icmp .lt 7) 3 5 := ⟨by decide +kernel, rfl⟩
theorem d_J_max_5 : gD m_J_max 5 (.iload_n 0) 1 6 := ⟨by decide +kernel, rfl⟩
theorem d_J_max_6 : gD m_J_max 6 (.goto 4) 3 9 := ⟨by decide +kernel, rfl⟩
theorem d_J_max_9 : gD m_J_max 9 (.iload_n 1) 1 10 := ⟨by decide +kernel, rfl⟩
theorem d_J_max_10 : gD m_J_max 10 .ireturn 1 11 := ⟨by decide +kernel, rfl⟩
theorem d_D_init_0 : gD m_D_init 0 (.aload_n 0) 1 1 := ⟨by decide +kernel, rfl⟩
theorem d_D_init_1 : gD m_D_init 1 (.invokespecial 1) 3 4 := ⟨by decide +kernel, rfl⟩
theorem d_D_init_4 : gD m_D_init 4 (.aload_n 0) 1 5 := ⟨by decide +kernel, rfl⟩
theorem d_D_init_5 : gD m_D_init 5 (.bipush 8) 2 7 := ⟨by decide +kernel, rfl⟩
theorem d_D_init_7 : gD m_D_init 7 (.anewarray 9) 3 10 := ⟨by decide +kernel, rfl⟩
theorem d_D_init_10 : gD m_D_init 10 (.putfield 11) 3 13 := ⟨by decide +kernel, rfl⟩
theorem d_D_init_13 : gD m_D_init 13 (.iconst 0) 1 14 := ⟨by decide +kernel, rfl⟩
theorem d_D_init_14 : gD m_D_init 14 (.istore_n 1) 1 15 := ⟨by decide +kernel, rfl⟩
theorem d_D_init_15 : gD m_D_init 15 (.iload_n 1) 1 16 := ⟨by decide +kernel, rfl⟩
theorem d_D_init_16 : gD m_D_init 16 (.bipush 8) 2 18 := ⟨by decide +kernel, rfl⟩
theorem d_D_init_18 : gD m_D_init 18 (.if_icmp .ge 22) 3 21 := ⟨by decide +kernel, rfl⟩
theorem d_D_init_21 : gD m_D_init 21 (.aload_n 0) 1 22 := ⟨by decide +kernel, rfl⟩
theorem d_D_init_22 : gD m_D_init 22 (.getfield 11) 3 25 := ⟨by decide +kernel, rfl⟩
theorem d_D_init_25 : gD m_D_init 25 (.iload_n 1) 1 26 := ⟨by decide +kernel, rfl⟩
theorem d_D_init_26 : gD m_D_init 26 (.new 9) 3 29 := ⟨by decide +kernel, rfl⟩
theorem d_D_init_29 : gD m_D_init 29 .dup 1 30 := ⟨by decide +kernel, rfl⟩
theorem d_D_init_30 : gD m_D_init 30 (.invokespecial 15) 3 33 := ⟨by decide +kernel, rfl⟩
theorem d_D_init_33 : gD m_D_init 33 .aastore 1 34 := ⟨by decide +kernel, rfl⟩
theorem d_D_init_34 : gD m_D_init 34 (.iinc 1 1) 3 37 := ⟨by decide +kernel, rfl⟩
theorem d_D_init_37 : gD m_D_init 37 (.goto (-22)) 3 40 := ⟨by decide +kernel, rfl⟩
theorem d_D_init_40 : gD m_D_init 40 .return_ 1 41 := ⟨by decide +kernel, rfl⟩
theorem d_H_init_0 : gD m_H_init 0 (.aload_n 0) 1 1 := ⟨by decide +kernel, rfl⟩
theorem d_H_init_1 : gD m_H_init 1 (.invokespecial 1) 3 4 := ⟨by decide +kernel, rfl⟩
theorem d_H_init_4 : gD m_H_init 4 (.aload_n 0) 1 5 := ⟨by decide +kernel, rfl⟩
theorem d_H_init_5 : gD m_H_init 5 (.new 7) 3 8 := ⟨by decide +kernel, rfl⟩
theorem d_H_init_8 : gD m_H_init 8 .dup 1 9 := ⟨by decide +kernel, rfl⟩
theorem d_H_init_9 : gD m_H_init 9 (.invokespecial 9) 3 12 := ⟨by decide +kernel, rfl⟩
theorem d_H_init_12 : gD m_H_init 12 (.putfield 10) 3 15 := ⟨by decide +kernel, rfl⟩
theorem d_H_init_15 : gD m_H_init 15 (.aload_n 0) 1 16 := ⟨by decide +kernel, rfl⟩
theorem d_H_init_16 : gD m_H_init 16 (.new 16) 3 19 := ⟨by decide +kernel, rfl⟩
theorem d_H_init_19 : gD m_H_init 19 .dup 1 20 := ⟨by decide +kernel, rfl⟩
theorem d_H_init_20 : gD m_H_init 20 (.invokespecial 18) 3 23 := ⟨by decide +kernel, rfl⟩
theorem d_H_init_23 : gD m_H_init 23 (.putfield 19) 3 26 := ⟨by decide +kernel, rfl⟩
theorem d_H_init_26 : gD m_H_init 26 .return_ 1 27 := ⟨by decide +kernel, rfl⟩
theorem d_V_init_0 : gD m_V_init 0 (.aload_n 0) 1 1 := ⟨by decide +kernel, rfl⟩
theorem d_V_init_1 : gD m_V_init 1 (.invokespecial 3) 3 4 := ⟨by decide +kernel, rfl⟩
theorem d_V_init_4 : gD m_V_init 4 (.aload_n 0) 1 5 := ⟨by decide +kernel, rfl⟩
theorem d_V_init_5 : gD m_V_init 5 (.aload_n 1) 1 6 := ⟨by decide +kernel, rfl⟩
theorem d_V_init_6 : gD m_V_init 6 (.putfield 9) 3 9 := ⟨by decide +kernel, rfl⟩
theorem d_V_init_9 : gD m_V_init 9 (.aload_n 0) 1 10 := ⟨by decide +kernel, rfl⟩
theorem d_V_init_10 : gD m_V_init 10 (.aload_n 2) 1 11 := ⟨by decide +kernel, rfl⟩
theorem d_V_init_11 : gD m_V_init 11 (.putfield 15) 3 14 := ⟨by decide +kernel, rfl⟩
theorem d_V_init_14 : gD m_V_init 14 (.aload_n 0) 1 15 := ⟨by decide +kernel, rfl⟩
theorem d_V_init_15 : gD m_V_init 15 (.aload_n 3) 1 16 := ⟨by decide +kernel, rfl⟩
theorem d_V_init_16 : gD m_V_init 16 (.putfield 19) 3 19 := ⟨by decide +kernel, rfl⟩
theorem d_V_init_19 : gD m_V_init 19 .return_ 1 20 := ⟨by decide +kernel, rfl⟩
theorem d_B_init_0 : gD m_B_init 0 (.aload_n 0) 1 1 := ⟨by decide +kernel, rfl⟩
theorem d_B_init_1 : gD m_B_init 1 (.invokespecial 3) 3 4 := ⟨by decide +kernel, rfl⟩
theorem d_B_init_4 : gD m_B_init 4 (.aload_n 0) 1 5 := ⟨by decide +kernel, rfl⟩
theorem d_B_init_5 : gD m_B_init 5 (.bipush 9) 2 7 := ⟨by decide +kernel, rfl⟩
theorem d_B_init_7 : gD m_B_init 7 (.newarray .int) 2 9 := ⟨by decide +kernel, rfl⟩
theorem d_B_init_9 : gD m_B_init 9 (.putfield 9) 3 12 := ⟨by decide +kernel, rfl⟩
theorem d_B_init_12 : gD m_B_init 12 (.aload_n 0) 1 13 := ⟨by decide +kernel, rfl⟩
theorem d_B_init_13 : gD m_B_init 13 (.aload_n 1) 1 14 := ⟨by decide +kernel, rfl⟩
theorem d_B_init_14 : gD m_B_init 14 (.putfield 15) 3 17 := ⟨by decide +kernel, rfl⟩
theorem d_B_init_17 : gD m_B_init 17 (.aload_n 0) 1 18 := ⟨by decide +kernel, rfl⟩
theorem d_B_init_18 : gD m_B_init 18 (.iconst (-1)) 1 19 := ⟨by decide +kernel, rfl⟩
theorem d_B_init_19 : gD m_B_init 19 (.putfield 19) 3 22 := ⟨by decide +kernel, rfl⟩
theorem d_B_init_22 : gD m_B_init 22 .return_ 1 23 := ⟨by decide +kernel, rfl⟩
theorem d_A_ask_0 : gD m_A_ask 0 (.aload_n 0) 1 1 := ⟨by decide +kernel, rfl⟩
theorem d_A_ask_1 : gD m_A_ask 1 (.invokevirtual 139) 3 4 := ⟨by decide +kernel, rfl⟩
theorem d_A_ask_4 : gD m_A_ask 4 (.aload_n 0) 1 5 := ⟨by decide +kernel, rfl⟩
theorem d_A_ask_5 : gD m_A_ask 5 (.invokevirtual 142) 3 8 := ⟨by decide +kernel, rfl⟩
theorem d_A_ask_8 : gD m_A_ask 8 (.aload_n 0) 1 9 := ⟨by decide +kernel, rfl⟩
theorem d_A_ask_9 : gD m_A_ask 9 (.invokevirtual 145) 3 12 := ⟨by decide +kernel, rfl⟩
theorem d_A_ask_12 : gD m_A_ask 12 (.aload_n 0) 1 13 := ⟨by decide +kernel, rfl⟩
theorem d_A_ask_13 : gD m_A_ask 13 (.getfield 51) 3 16 := ⟨by decide +kernel, rfl⟩
theorem d_A_ask_16 : gD m_A_ask 16 (.aload_n 0) 1 17 := ⟨by decide +kernel, rfl⟩
theorem d_A_ask_17 : gD m_A_ask 17 (.getfield 19) 3 20 := ⟨by decide +kernel, rfl⟩
theorem d_A_ask_20 : gD m_A_ask 20 (.invokevirtual 148) 3 23 := ⟨by decide +kernel, rfl⟩
theorem d_A_ask_23 : gD m_A_ask 23 (.aload_n 0) 1 24 := ⟨by decide +kernel, rfl⟩
theorem d_A_ask_24 : gD m_A_ask 24 (.getfield 74) 3 27 := ⟨by decide +kernel, rfl⟩
theorem d_A_ask_27 : gD m_A_ask 27 (.getfield 152) 3 30 := ⟨by decide +kernel, rfl⟩
theorem d_A_ask_30 : gD m_A_ask 30 .ireturn 1 31 := ⟨by decide +kernel, rfl⟩
theorem d_A_takeCheapestWay_0 : gD m_A_takeCheapestWay 0 (.aload_n 0) 1 1 := ⟨by decide +kernel, rfl⟩
theorem d_A_takeCheapestWay_1 : gD m_A_takeCheapestWay 1 (.getfield 35) 3 4 := ⟨by decide +kernel, rfl⟩
theorem d_A_takeCheapestWay_4 : gD m_A_takeCheapestWay 4 (.aload_n 0) 1 5 := ⟨by decide +kernel, rfl⟩
theorem d_A_takeCheapestWay_5 : gD m_A_takeCheapestWay 5 (.getfield 12) 3 8 := ⟨by decide +kernel, rfl⟩
theorem d_A_takeCheapestWay_8 : gD m_A_takeCheapestWay 8 (.aload_n 0) 1 9 := ⟨by decide +kernel, rfl⟩
theorem d_A_takeCheapestWay_9 : gD m_A_takeCheapestWay 9 (.getfield 28) 3 12 := ⟨by decide +kernel, rfl⟩
theorem d_A_takeCheapestWay_12 : gD m_A_takeCheapestWay 12 (.aload_n 0) 1 13 := ⟨by decide +kernel, rfl⟩
theorem d_A_takeCheapestWay_13 : gD m_A_takeCheapestWay 13 (.getfield 19) 3 16 := ⟨by decide +kernel, rfl⟩
theorem d_A_takeCheapestWay_16 : gD m_A_takeCheapestWay 16 (.invokevirtual 178) 3 19 := ⟨by decide +kernel, rfl⟩
theorem d_A_takeCheapestWay_19 : gD m_A_takeCheapestWay 19 (.aload_n 0) 1 20 := ⟨by decide +kernel, rfl⟩
theorem d_A_takeCheapestWay_20 : gD m_A_takeCheapestWay 20 (.aload_n 0) 1 21 := ⟨by decide +kernel, rfl⟩
theorem d_A_takeCheapestWay_21 : gD m_A_takeCheapestWay 21 (.getfield 35) 3 24 := ⟨by decide +kernel, rfl⟩
theorem d_A_takeCheapestWay_24 : gD m_A_takeCheapestWay 24 (.aload_n 0) 1 25 := ⟨by decide +kernel, rfl⟩
theorem d_A_takeCheapestWay_25 : gD m_A_takeCheapestWay 25 (.getfield 67) 3 28 := ⟨by decide +kernel, rfl⟩
theorem d_A_takeCheapestWay_28 : gD m_A_takeCheapestWay 28 (.invokevirtual 225) 3 31 := ⟨by decide +kernel, rfl⟩
theorem d_A_takeCheapestWay_31 : gD m_A_takeCheapestWay 31 (.invokevirtual 292) 3 34 := ⟨by decide +kernel, rfl⟩
theorem d_A_takeCheapestWay_34 : gD m_A_takeCheapestWay 34 (.putfield 88) 3 37 := ⟨by decide +kernel, rfl⟩
theorem d_A_takeCheapestWay_37 : gD m_A_takeCheapestWay 37 (.aload_n 0) 1 38 := ⟨by decide +kernel, rfl⟩
theorem d_A_takeCheapestWay_38 : gD m_A_takeCheapestWay 38 (.aload_n 0) 1 39 := ⟨by decide +kernel, rfl⟩
theorem d_A_takeCheapestWay_39 : gD m_A_takeCheapestWay 39 (.getfield 35) 3 42 := ⟨by decide +kernel, rfl⟩
theorem d_A_takeCheapestWay_42 : gD m_A_takeCheapestWay 42 (.aload_n 0) 1 43 := ⟨by decide +kernel, rfl⟩
theorem d_A_takeCheapestWay_43 : gD m_A_takeCheapestWay 43 (.getfield 88) 3 46 := ⟨by decide +kernel, rfl⟩
theorem d_A_takeCheapestWay_46 : gD m_A_takeCheapestWay 46 (.invokevirtual 182) 3 49 := ⟨by decide +kernel, rfl⟩
theorem d_A_takeCheapestWay_49 : gD m_A_takeCheapestWay 49 (.putfield 164) 3 52 := ⟨by decide +kernel, rfl⟩
theorem d_A_takeCheapestWay_52 : gD m_A_takeCheapestWay 52 .return_ 1 53 := ⟨by decide +kernel, rfl⟩
theorem d_W_measure_0 : gD m_W_measure 0 (.aload_n 0) 1 1 := ⟨by decide +kernel, rfl⟩
theorem d_W_measure_1 : gD m_W_measure 1 (.aload_n 1) 1 2 := ⟨by decide +kernel, rfl⟩
theorem d_W_measure_2 : gD m_W_measure 2 (.invokevirtual 15) 3 5 := ⟨by decide +kernel, rfl⟩
theorem d_W_measure_5 : gD m_W_measure 5 (.putfield 21) 3 8 := ⟨by decide +kernel, rfl⟩
theorem d_W_measure_8 : gD m_W_measure 8 (.iconst 0) 1 9 := ⟨by decide +kernel, rfl⟩
theorem d_W_measure_9 : gD m_W_measure 9 (.istore 4) 2 11 := ⟨by decide +kernel, rfl⟩
theorem d_W_measure_11 : gD m_W_measure 11 (.iload 4) 2 13 := ⟨by decide +kernel, rfl⟩
theorem d_W_measure_13 : gD m_W_measure 13 (.bipush 9) 2 15 := ⟨by decide +kernel, rfl⟩
theorem d_W_measure_15 : gD m_W_measure 15 (.if_icmp .ge 48) 3 18 := ⟨by decide +kernel, rfl⟩
theorem d_W_measure_18 : gD m_W_measure 18 (.aload_n 0) 1 19 := ⟨by decide +kernel, rfl⟩
theorem d_W_measure_19 : gD m_W_measure 19 (.getfield 9) 3 22 := ⟨by decide +kernel, rfl⟩
theorem d_W_measure_22 : gD m_W_measure 22 (.iload 4) 2 24 := ⟨by decide +kernel, rfl⟩
theorem d_W_measure_24 : gD m_W_measure 24 (.iconst (-1)) 1 25 := ⟨by decide +kernel, rfl⟩
theorem d_W_measure_25 : gD m_W_measure 25 .iastore 1 26 := ⟨by decide +kernel, rfl⟩
theorem d_W_measure_26 : gD m_W_measure 26 (.aload_n 3) 1 27 := ⟨by decide +kernel, rfl⟩
theorem d_W_measure_27 : gD m_W_measure 27 (.getstatic 25) 3 30 := ⟨by decide +kernel, rfl⟩
theorem d_W_measure_30 : gD m_W_measure 30 (.iload 4) 2 32 := ⟨by decide +kernel, rfl⟩
theorem d_W_measure_32 : gD m_W_measure 32 .iaload 1 33 := ⟨by decide +kernel, rfl⟩
theorem d_W_measure_33 : gD m_W_measure 33 (.invokevirtual 28) 3 36 := ⟨by decide +kernel, rfl⟩
theorem d_W_measure_36 : gD m_W_measure 36 (.ifCond .eq 21) 3 39 := ⟨by decide +kernel, rfl⟩
theorem d_W_measure_39 : gD m_W_measure 39 (.aload_n 2) 1 40 := ⟨by decide +kernel, rfl⟩
theorem d_W_measure_40 : gD m_W_measure 40 (.aload_n 3) 1 41 := ⟨by decide +kernel, rfl⟩
theorem d_W_measure_41 : gD m_W_measure 41 (.iload 4) 2 43 := ⟨by decide +kernel, rfl⟩
theorem d_W_measure_43 : gD m_W_measure 43 (.invokevirtual 34) 3 46 := ⟨by decide +kernel, rfl⟩
theorem d_W_measure_46 : gD m_W_measure 46 (.aload_n 0) 1 47 := ⟨by decide +kernel, rfl⟩
theorem d_W_measure_47 : gD m_W_measure 47 (.getfield 9) 3 50 := ⟨by decide +kernel, rfl⟩
theorem d_W_measure_50 : gD m_W_measure 50 (.iload 4) 2 52 := ⟨by decide +kernel, rfl⟩
theorem d_W_measure_52 : gD m_W_measure 52 (.aload_n 2) 1 53 := ⟨by decide +kernel, rfl⟩
theorem d_W_measure_53 : gD m_W_measure 53 (.invokevirtual 40) 3 56 := ⟨by decide +kernel, rfl⟩
theorem d_W_measure_56 : gD m_W_measure 56 .iastore 1 57 := ⟨by decide +kernel, rfl⟩
theorem d_W_measure_57 : gD m_W_measure 57 (.iinc 4 1) 3 60 := ⟨by decide +kernel, rfl⟩
theorem d_W_measure_60 : gD m_W_measure 60 (.goto (-49)) 3 63 := ⟨by decide +kernel, rfl⟩
theorem d_W_measure_63 : gD m_W_measure 63 .return_ 1 64 := ⟨by decide +kernel, rfl⟩
theorem d_T_heapPages_0 : gD m_T_heapPages 0 (.aload_n 0) 1 1 := ⟨by decide +kernel, rfl⟩
theorem d_T_heapPages_1 : gD m_T_heapPages 1 (.getfield 19) 3 4 := ⟨by decide +kernel, rfl⟩
theorem d_T_heapPages_4 : gD m_T_heapPages 4 (.invokestatic 30) 3 7 := ⟨by decide +kernel, rfl⟩
theorem d_T_heapPages_7 : gD m_T_heapPages 7 .ireturn 1 8 := ⟨by decide +kernel, rfl⟩
theorem d_A_groupsOfFour_0 : gD m_A_groupsOfFour 0 (.iload_n 0) 1 1 := ⟨by decide +kernel, rfl⟩
theorem d_A_groupsOfFour_1 : gD m_A_groupsOfFour 1 (.iconst 4) 1 2 := ⟨by decide +kernel, rfl⟩
theorem d_A_groupsOfFour_2 : gD m_A_groupsOfFour 2 .iadd 1 3 := ⟨by decide +kernel, rfl⟩
theorem d_A_groupsOfFour_3 : gD m_A_groupsOfFour 3 (.iconst 1) 1 4 := ⟨by decide +kernel, rfl⟩
theorem d_A_groupsOfFour_4 : gD m_A_groupsOfFour 4 .isub 1 5 := ⟨by decide +kernel, rfl⟩
theorem d_A_groupsOfFour_5 : gD m_A_groupsOfFour 5 (.iconst 4) 1 6 := ⟨by decide +kernel, rfl⟩
theorem d_A_groupsOfFour_6 : gD m_A_groupsOfFour 6 .idiv 1 7 := ⟨by decide +kernel, rfl⟩
theorem d_A_groupsOfFour_7 : gD m_A_groupsOfFour 7 .ireturn 1 8 := ⟨by decide +kernel, rfl⟩
theorem d_C_binds_0 : gD m_C_binds 0 (.aload_n 0) 1 1 := ⟨by decide +kernel, rfl⟩
theorem d_C_binds_1 : gD m_C_binds 1 (.getfield 9) 3 4 := ⟨by decide +kernel, rfl⟩
theorem d_C_binds_4 : gD m_C_binds 4 (.iload_n 1) 1 5 := ⟨by decide +kernel, rfl⟩
theorem d_C_binds_5 : gD m_C_binds 5 .iaload 1 6 := ⟨by decide +kernel, rfl⟩
theorem d_C_binds_6 : gD m_C_binds 6 (.ifCond .eq 7) 3 9 := ⟨by decide +kernel, rfl⟩
theorem d_C_binds_9 : gD m_C_binds 9 (.iconst 1) 1 10 := ⟨by decide +kernel, rfl⟩
theorem d_C_binds_10 : gD m_C_binds 10 (.goto 4) 3 13 := ⟨by decide +kernel, rfl⟩
theorem d_C_binds_13 : gD m_C_binds 13 (.iconst 0) 1 14 := ⟨by decide +kernel, rfl⟩
theorem d_C_binds_14 : gD m_C_binds 14 .ireturn 1 15 := ⟨by decide +kernel, rfl⟩
theorem d_S_lay_0 : gD m_S_lay 0 (.aload_n 0) 1 1 := ⟨by decide +kernel, rfl⟩
theorem d_S_lay_1 : gD m_S_lay 1 (.getstatic 22) 3 4 := ⟨by decide +kernel, rfl⟩
theorem d_S_lay_4 : gD m_S_lay 4 (.iload_n 2) 1 5 := ⟨by decide +kernel, rfl⟩
theorem d_S_lay_5 : gD m_S_lay 5 .iaload 1 6 := ⟨by decide +kernel, rfl⟩
theorem d_S_lay_6 : gD m_S_lay 6 (.putfield 26) 3 9 := ⟨by decide +kernel, rfl⟩
theorem d_S_lay_9 : gD m_S_lay 9 (.aload_n 0) 1 10 := ⟨by decide +kernel, rfl⟩
theorem d_S_lay_10 : gD m_S_lay 10 (.getstatic 30) 3 13 := ⟨by decide +kernel, rfl⟩
theorem d_S_lay_13 : gD m_S_lay 13 (.iload_n 2) 1 14 := ⟨by decide +kernel, rfl⟩
theorem d_S_lay_14 : gD m_S_lay 14 .iaload 1 15 := ⟨by decide +kernel, rfl⟩
theorem d_S_lay_15 : gD m_S_lay 15 (.putfield 33) 3 18 := ⟨by decide +kernel, rfl⟩
theorem d_S_lay_18 : gD m_S_lay 18 (.aload_n 0) 1 19 := ⟨by decide +kernel, rfl⟩
theorem d_S_lay_19 : gD m_S_lay 19 (.aload_n 0) 1 20 := ⟨by decide +kernel, rfl⟩
theorem d_S_lay_20 : gD m_S_lay 20 (.getfield 33) 3 23 := ⟨by decide +kernel, rfl⟩
theorem d_S_lay_23 : gD m_S_lay 23 (.iconst (-1)) 1 24 := ⟨by decide +kernel, rfl⟩
theorem d_S_lay_24 : gD m_S_lay 24 (.if_icmp .eq 31) 3 27 := ⟨by decide +kernel, rfl⟩
theorem d_S_lay_27 : gD m_S_lay 27 (.aload_n 1) 1 28 := ⟨by decide +kernel, rfl⟩
theorem d_S_lay_28 : gD m_S_lay 28 (.getfield 36) 3 31 := ⟨by decide +kernel, rfl⟩
theorem d_S_lay_31 : gD m_S_lay 31 (.aload_n 0) 1 32 := ⟨by decide +kernel, rfl⟩
theorem d_S_lay_32 : gD m_S_lay 32 (.getfield 26) 3 35 := ⟨by decide +kernel, rfl⟩
theorem d_S_lay_35 : gD m_S_lay 35 .iaload 1 36 := ⟨by decide +kernel, rfl⟩
theorem d_S_lay_36 : gD m_S_lay 36 (.iconst 1) 1 37 := ⟨by decide +kernel, rfl⟩
theorem d_S_lay_37 : gD m_S_lay 37 (.if_icmp .ne 18) 3 40 := ⟨by decide +kernel, rfl⟩
theorem d_S_lay_40 : gD m_S_lay 40 (.aload_n 1) 1 41 := ⟨by decide +kernel, rfl⟩
theorem d_S_lay_41 : gD m_S_lay 41 (.aload_n 0) 1 42 := ⟨by decide +kernel, rfl⟩
theorem d_S_lay_42 : gD m_S_lay 42 (.getfield 33) 3 45 := ⟨by decide +kernel, rfl⟩
theorem d_S_lay_45 : gD m_S_lay 45 (.invokevirtual 41) 3 48 := ⟨by decide +kernel, rfl⟩
theorem d_S_lay_48 : gD m_S_lay 48 (.ifCond .eq 7) 3 51 := ⟨by decide +kernel, rfl⟩
theorem d_S_lay_51 : gD m_S_lay 51 (.iconst 1) 1 52 := ⟨by decide +kernel, rfl⟩
theorem d_S_lay_52 : gD m_S_lay 52 (.goto 4) 3 55 := ⟨by decide +kernel, rfl⟩
theorem d_S_lay_55 : gD m_S_lay 55 (.iconst 0) 1 56 := ⟨by decide +kernel, rfl⟩
theorem d_S_lay_56 : gD m_S_lay 56 (.putfield 45) 3 59 := ⟨by decide +kernel, rfl⟩
theorem d_S_lay_59 : gD m_S_lay 59 (.aload_n 0) 1 60 := ⟨by decide +kernel, rfl⟩
theorem d_S_lay_60 : gD m_S_lay 60 (.iconst 0) 1 61 := ⟨by decide +kernel, rfl⟩
theorem d_S_lay_61 : gD m_S_lay 61 (.putfield 49) 3 64 := ⟨by decide +kernel, rfl⟩
theorem d_S_lay_64 : gD m_S_lay 64 (.aload_n 0) 1 65 := ⟨by decide +kernel, rfl⟩
theorem d_S_lay_65 : gD m_S_lay 65 (.getfield 12) 3 68 := ⟨by decide +kernel, rfl⟩
theorem d_S_lay_68 : gD m_S_lay 68 (.iconst 0) 1 69 := ⟨by decide +kernel, rfl⟩
theorem d_S_lay_69 : gD m_S_lay 69 (.putfield 52) 3 72 := ⟨by decide +kernel, rfl⟩
theorem d_S_lay_72 : gD m_S_lay 72 (.iconst 0) 1 73 := ⟨by decide +kernel, rfl⟩
theorem d_S_lay_73 : gD m_S_lay 73 (.istore_n 3) 1 74 := ⟨by decide +kernel, rfl⟩
theorem d_S_lay_74 : gD m_S_lay 74 (.iload_n 3) 1 75 := ⟨by decide +kernel, rfl⟩
theorem d_S_lay_75 : gD m_S_lay 75 (.aload_n 0) 1 76 := ⟨by decide +kernel, rfl⟩
theorem d_S_lay_76 : gD m_S_lay 76 (.getfield 18) 3 79 := ⟨by decide +kernel, rfl⟩
theorem d_S_lay_79 : gD m_S_lay 79 (.getfield 55) 3 82 := ⟨by decide +kernel, rfl⟩
theorem d_S_lay_82 : gD m_S_lay 82 (.if_icmp .ge 27) 3 85 := ⟨by decide +kernel, rfl⟩
theorem d_S_lay_85 : gD m_S_lay 85 (.aload_n 0) 1 86 := ⟨by decide +kernel, rfl⟩
theorem d_S_lay_86 : gD m_S_lay 86 (.getfield 18) 3 89 := ⟨by decide +kernel, rfl⟩
theorem d_S_lay_89 : gD m_S_lay 89 (.getfield 60) 3 92 := ⟨by decide +kernel, rfl⟩
theorem d_S_lay_92 : gD m_S_lay 92 (.iload_n 3) 1 93 := ⟨by decide +kernel, rfl⟩
theorem d_S_lay_93 : gD m_S_lay 93 .baload 1 94 := ⟨by decide +kernel, rfl⟩
theorem d_S_lay_94 : gD m_S_lay 94 (.ifCond .eq 9) 3 97 := ⟨by decide +kernel, rfl⟩
theorem d_S_lay_97 : gD m_S_lay 97 (.aload_n 0) 1 98 := ⟨by decide +kernel, rfl⟩
theorem d_S_lay_98 : gD m_S_lay 98 (.aload_n 1) 1 99 := ⟨by decide +kernel, rfl⟩
theorem d_S_lay_99 : gD m_S_lay 99 (.iload_n 3) 1 100 := ⟨by decide +kernel, rfl⟩
theorem d_S_lay_100 : gD m_S_lay 100 (.invokevirtual 64) 3 103 := ⟨by decide +kernel, rfl⟩
theorem d_S_lay_103 : gD m_S_lay 103 (.iinc 3 1) 3 106 := ⟨by decide +kernel, rfl⟩
theorem d_S_lay_106 : gD m_S_lay 106 (.goto (-32)) 3 109 := ⟨by decide +kernel, rfl⟩
theorem d_S_lay_109 : gD m_S_lay 109 .return_ 1 110 := ⟨by decide +kernel, rfl⟩
theorem d_S_place_0 : gD m_S_place 0 (.aload_n 0) 1 1 := ⟨by decide +kernel, rfl⟩
theorem d_S_place_1 : gD m_S_place 1 (.aload_n 1) 1 2 := ⟨by decide +kernel, rfl⟩
theorem d_S_place_2 : gD m_S_place 2 (.iload_n 2) 1 3 := ⟨by decide +kernel, rfl⟩
theorem d_S_place_3 : gD m_S_place 3 (.invokevirtual 68) 3 6 := ⟨by decide +kernel, rfl⟩
theorem d_S_place_6 : gD m_S_place 6 (.ifCond .eq 16) 3 9 := ⟨by decide +kernel, rfl⟩
theorem d_S_place_9 : gD m_S_place 9 (.aload_n 0) 1 10 := ⟨by decide +kernel, rfl⟩
theorem d_S_place_10 : gD m_S_place 10 .dup 1 11 := ⟨by decide +kernel, rfl⟩
theorem d_S_place_11 : gD m_S_place 11 (.getfield 49) 3 14 := ⟨by decide +kernel, rfl⟩
theorem d_S_place_14 : gD m_S_place 14 (.iconst 1) 1 15 := ⟨by decide +kernel, rfl⟩
theorem d_S_place_15 : gD m_S_place 15 .iadd 1 16 := ⟨by decide +kernel, rfl⟩
theorem d_S_place_16 : gD m_S_place 16 (.putfield 49) 3 19 := ⟨by decide +kernel, rfl⟩
theorem d_S_place_19 : gD m_S_place 19 (.goto 20) 3 22 := ⟨by decide +kernel, rfl⟩
theorem d_S_place_22 : gD m_S_place 22 (.aload_n 0) 1 23 := ⟨by decide +kernel, rfl⟩
theorem d_S_place_23 : gD m_S_place 23 (.aload_n 1) 1 24 := ⟨by decide +kernel, rfl⟩
theorem d_S_place_24 : gD m_S_place 24 (.iload_n 2) 1 25 := ⟨by decide +kernel, rfl⟩
theorem d_S_place_25 : gD m_S_place 25 (.invokevirtual 72) 3 28 := ⟨by decide +kernel, rfl⟩
theorem d_S_place_28 : gD m_S_place 28 (.ifCond .eq 11) 3 31 := ⟨by decide +kernel, rfl⟩
theorem d_S_place_31 : gD m_S_place 31 (.aload_n 0) 1 32 := ⟨by decide +kernel, rfl⟩
theorem d_S_place_32 : gD m_S_place 32 (.getfield 12) 3 35 := ⟨by decide +kernel, rfl⟩
theorem d_S_place_35 : gD m_S_place 35 (.iload_n 2) 1 36 := ⟨by decide +kernel, rfl⟩
theorem d_S_place_36 : gD m_S_place 36 (.invokevirtual 75) 3 39 := ⟨by decide +kernel, rfl⟩
theorem d_S_place_39 : gD m_S_place 39 .return_ 1 40 := ⟨by decide +kernel, rfl⟩
theorem d_S_isBefore_0 : gD m_S_isBefore 0 (.aload_n 0) 1 1 := ⟨by decide +kernel, rfl⟩
theorem d_S_isBefore_1 : gD m_S_isBefore 1 (.getfield 18) 3 4 := ⟨by decide +kernel, rfl⟩
theorem d_S_isBefore_4 : gD m_S_isBefore 4 (.iload_n 2) 1 5 := ⟨by decide +kernel, rfl⟩
theorem d_S_isBefore_5 : gD m_S_isBefore 5 (.aload_n 0) 1 6 := ⟨by decide +kernel, rfl⟩
theorem d_S_isBefore_6 : gD m_S_isBefore 6 (.getfield 26) 3 9 := ⟨by decide +kernel, rfl⟩
theorem d_S_isBefore_9 : gD m_S_isBefore 9 (.invokevirtual 79) 3 12 := ⟨by decide +kernel, rfl⟩
theorem d_S_isBefore_12 : gD m_S_isBefore 12 (.istore_n 3) 1 13 := ⟨by decide +kernel, rfl⟩
theorem d_S_isBefore_13 : gD m_S_isBefore 13 (.aload_n 1) 1 14 := ⟨by decide +kernel, rfl⟩
theorem d_S_isBefore_14 : gD m_S_isBefore 14 (.getfield 83) 3 17 := ⟨by decide +kernel, rfl⟩
theorem d_S_isBefore_17 : gD m_S_isBefore 17 (.aload_n 0) 1 18 := ⟨by decide +kernel, rfl⟩
theorem d_S_isBefore_18 : gD m_S_isBefore 18 (.getfield 26) 3 21 := ⟨by decide +kernel, rfl⟩
theorem d_S_isBefore_21 : gD m_S_isBefore 21 .iaload 1 22 := ⟨by decide +kernel, rfl⟩
theorem d_S_isBefore_22 : gD m_S_isBefore 22 (.istore 4) 2 24 := ⟨by decide +kernel, rfl⟩
theorem d_S_isBefore_24 : gD m_S_isBefore 24 (.iload_n 3) 1 25 := ⟨by decide +kernel, rfl⟩
theorem d_S_isBefore_25 : gD m_S_isBefore 25 (.iload 4) 2 27 := ⟨by decide +kernel, rfl⟩
theorem d_S_isBefore_27 : gD m_S_isBefore 27 (.if_icmp .lt 40) 3 30 := ⟨by decide +kernel, rfl⟩
theorem d_S_isBefore_30 : gD m_S_isBefore 30 (.aload_n 0) 1 31 := ⟨by decide +kernel, rfl⟩
theorem d_S_isBefore_31 : gD m_S_isBefore 31 (.getfield 45) 3 34 := ⟨by decide +kernel, rfl⟩
theorem d_S_isBefore_34 : gD m_S_isBefore 34 (.ifCond .eq 37) 3 37 := ⟨by decide +kernel, rfl⟩
theorem d_S_isBefore_37 : gD m_S_isBefore 37 (.iload_n 3) 1 38 := ⟨by decide +kernel, rfl⟩
theorem d_S_isBefore_38 : gD m_S_isBefore 38 (.iload 4) 2 40 := ⟨by decide +kernel, rfl⟩
theorem d_S_isBefore_40 : gD m_S_isBefore 40 (.if_icmp .ne 31) 3 43 := ⟨by decide +kernel, rfl⟩
theorem d_S_isBefore_43 : gD m_S_isBefore 43 (.aload_n 0) 1 44 := ⟨by decide +kernel, rfl⟩
theorem d_S_isBefore_44 : gD m_S_isBefore 44 (.getfield 18) 3 47 := ⟨by decide +kernel, rfl⟩
theorem d_S_isBefore_47 : gD m_S_isBefore 47 (.iload_n 2) 1 48 := ⟨by decide +kernel, rfl⟩
theorem d_S_isBefore_48 : gD m_S_isBefore 48 (.aload_n 0) 1 49 := ⟨by decide +kernel, rfl⟩
theorem d_S_isBefore_49 : gD m_S_isBefore 49 (.getfield 33) 3 52 := ⟨by decide +kernel, rfl⟩
theorem d_S_isBefore_52 : gD m_S_isBefore 52 (.invokevirtual 79) 3 55 := ⟨by decide +kernel, rfl⟩
theorem d_S_isBefore_55 : gD m_S_isBefore 55 (.aload_n 1) 1 56 := ⟨by decide +kernel, rfl⟩
theorem d_S_isBefore_56 : gD m_S_isBefore 56 (.getfield 83) 3 59 := ⟨by decide +kernel, rfl⟩
theorem d_S_isBefore_59 : gD m_S_isBefore 59 (.aload_n 0) 1 60 := ⟨by decide +kernel, rfl⟩
theorem d_S_isBefore_60 : gD m_S_isBefore 60 (.getfield 33) 3 63 := ⟨by decide +kernel, rfl⟩
theorem d_S_isBefore_63 : gD m_S_isBefore 63 .iaload 1 64 := ⟨by decide +kernel, rfl⟩
theorem d_S_isBefore_64 : gD m_S_isBefore 64 (.if_icmp .ge 7) 3 67 := ⟨by decide +kernel, rfl⟩
theorem d_S_isBefore_67 : gD m_S_isBefore 67 (.iconst 1) 1 68 := ⟨by decide +kernel, rfl⟩
theorem d_S_isBefore_68 : gD m_S_isBefore 68 (.goto 4) 3 71 := ⟨by decide +kernel, rfl⟩
theorem d_S_isBefore_71 : gD m_S_isBefore 71 (.iconst 0) 1 72 := ⟨by decide +kernel, rfl⟩
theorem d_S_isBefore_72 : gD m_S_isBefore 72 .ireturn 1 73 := ⟨by decide +kernel, rfl⟩
theorem d_T_at_0 : gD m_T_at 0 (.aload_n 0) 1 1 := ⟨by decide +kernel, rfl⟩
theorem d_T_at_1 : gD m_T_at 1 (.getfield 9) 3 4 := ⟨by decide +kernel, rfl⟩
theorem d_T_at_4 : gD m_T_at 4 (.iload_n 1) 1 5 := ⟨by decide +kernel, rfl⟩
theorem d_T_at_5 : gD m_T_at 5 (.iconst 3) 1 6 := ⟨by decide +kernel, rfl⟩
theorem d_T_at_6 : gD m_T_at 6 .imul 1 7 := ⟨by decide +kernel, rfl⟩
theorem d_T_at_7 : gD m_T_at 7 (.iload_n 2) 1 8 := ⟨by decide +kernel, rfl⟩
theorem d_T_at_8 : gD m_T_at 8 .iadd 1 9 := ⟨by decide +kernel, rfl⟩
theorem d_T_at_9 : gD m_T_at 9 .iaload 1 10 := ⟨by decide +kernel, rfl⟩
theorem d_T_at_10 : gD m_T_at 10 .ireturn 1 11 := ⟨by decide +kernel, rfl⟩
theorem d_S_isInside_0 : gD m_S_isInside 0 (.aload_n 1) 1 1 := ⟨by decide +kernel, rfl⟩
theorem d_S_isInside_1 : gD m_S_isInside 1 (.aload_n 0) 1 2 := ⟨by decide +kernel, rfl⟩
theorem d_S_isInside_2 : gD m_S_isInside 2 (.getfield 26) 3 5 := ⟨by decide +kernel, rfl⟩
theorem d_S_isInside_5 : gD m_S_isInside 5 (.aload_n 0) 1 6 := ⟨by decide +kernel, rfl⟩
theorem d_S_isInside_6 : gD m_S_isInside 6 (.getfield 18) 3 9 := ⟨by decide +kernel, rfl⟩
theorem d_S_isInside_9 : gD m_S_isInside 9 (.iload_n 2) 1 10 := ⟨by decide +kernel, rfl⟩
theorem d_S_isInside_10 : gD m_S_isInside 10 (.aload_n 0) 1 11 := ⟨by decide +kernel, rfl⟩
theorem d_S_isInside_11 : gD m_S_isInside 11 (.getfield 26) 3 14 := ⟨by decide +kernel, rfl⟩
theorem d_S_isInside_14 : gD m_S_isInside 14 (.invokevirtual 79) 3 17 := ⟨by decide +kernel, rfl⟩
theorem d_S_isInside_17 : gD m_S_isInside 17 (.invokevirtual 86) 3 20 := ⟨by decide +kernel, rfl⟩
theorem d_S_isInside_20 : gD m_S_isInside 20 (.ifCond .eq 37) 3 23 := ⟨by decide +kernel, rfl⟩
theorem d_S_isInside_23 : gD m_S_isInside 23 (.aload_n 0) 1 24 := ⟨by decide +kernel, rfl⟩
theorem d_S_isInside_24 : gD m_S_isInside 24 (.getfield 45) 3 27 := ⟨by decide +kernel, rfl⟩
theorem d_S_isInside_27 : gD m_S_isInside 27 (.ifCond .eq 26) 3 30 := ⟨by decide +kernel, rfl⟩
theorem d_S_isInside_30 : gD m_S_isInside 30 (.aload_n 1) 1 31 := ⟨by decide +kernel, rfl⟩
theorem d_S_isInside_31 : gD m_S_isInside 31 (.aload_n 0) 1 32 := ⟨by decide +kernel, rfl⟩
theorem d_S_isInside_32 : gD m_S_isInside 32 (.getfield 33) 3 35 := ⟨by decide +kernel, rfl⟩
theorem d_S_isInside_35 : gD m_S_isInside 35 (.aload_n 0) 1 36 := ⟨by decide +kernel, rfl⟩
theorem d_S_isInside_36 : gD m_S_isInside 36 (.getfield 18) 3 39 := ⟨by decide +kernel, rfl⟩
theorem d_S_isInside_39 : gD m_S_isInside 39 (.iload_n 2) 1 40 := ⟨by decide +kernel, rfl⟩
theorem d_S_isInside_40 : gD m_S_isInside 40 (.aload_n 0) 1 41 := ⟨by decide +kernel, rfl⟩
theorem d_S_isInside_41 : gD m_S_isInside 41 (.getfield 33) 3 44 := ⟨by decide +kernel, rfl⟩
theorem d_S_isInside_44 : gD m_S_isInside 44 (.invokevirtual 79) 3 47 := ⟨by decide +kernel, rfl⟩
theorem d_S_isInside_47 : gD m_S_isInside 47 (.invokevirtual 86) 3 50 := ⟨by decide +kernel, rfl⟩
theorem d_S_isInside_50 : gD m_S_isInside 50 (.ifCond .eq 7) 3 53 := ⟨by decide +kernel, rfl⟩
theorem d_S_isInside_53 : gD m_S_isInside 53 (.iconst 1) 1 54 := ⟨by decide +kernel, rfl⟩
theorem d_S_isInside_54 : gD m_S_isInside 54 (.goto 4) 3 57 := ⟨by decide +kernel, rfl⟩
theorem d_S_isInside_57 : gD m_S_isInside 57 (.iconst 0) 1 58 := ⟨by decide +kernel, rfl⟩
theorem d_S_isInside_58 : gD m_S_isInside 58 .ireturn 1 59 := ⟨by decide +kernel, rfl⟩
theorem d_C_fit_0 : gD m_C_fit 0 (.aload_n 0) 1 1 := ⟨by decide +kernel, rfl⟩
theorem d_C_fit_1 : gD m_C_fit 1 (.getfield 9) 3 4 := ⟨by decide +kernel, rfl⟩
theorem d_C_fit_4 : gD m_C_fit 4 (.iload_n 1) 1 5 := ⟨by decide +kernel, rfl⟩
theorem d_C_fit_5 : gD m_C_fit 5 .iaload 1 6 := ⟨by decide +kernel, rfl⟩
theorem d_C_fit_6 : gD m_C_fit 6 (.ifCond .eq 23) 3 9 := ⟨by decide +kernel, rfl⟩
theorem d_C_fit_9 : gD m_C_fit 9 (.aload_n 0) 1 10 := ⟨by decide +kernel, rfl⟩
theorem d_C_fit_10 : gD m_C_fit 10 (.getfield 15) 3 13 := ⟨by decide +kernel, rfl⟩
theorem d_C_fit_13 : gD m_C_fit 13 (.iload_n 1) 1 14 := ⟨by decide +kernel, rfl⟩
theorem d_C_fit_14 : gD m_C_fit 14 .iaload 1 15 := ⟨by decide +kernel, rfl⟩
theorem d_C_fit_15 : gD m_C_fit 15 (.iload_n 2) 1 16 := ⟨by decide +kernel, rfl⟩
theorem d_C_fit_16 : gD m_C_fit 16 (.if_icmp .gt 17) 3 19 := ⟨by decide +kernel, rfl⟩
theorem d_C_fit_19 : gD m_C_fit 19 (.iload_n 2) 1 20 := ⟨by decide +kernel, rfl⟩
theorem d_C_fit_20 : gD m_C_fit 20 (.aload_n 0) 1 21 := ⟨by decide +kernel, rfl⟩
theorem d_C_fit_21 : gD m_C_fit 21 (.getfield 18) 3 24 := ⟨by decide +kernel, rfl⟩
theorem d_C_fit_24 : gD m_C_fit 24 (.iload_n 1) 1 25 := ⟨by decide +kernel, rfl⟩
theorem d_C_fit_25 : gD m_C_fit 25 .iaload 1 26 := ⟨by decide +kernel, rfl⟩
theorem d_C_fit_26 : gD m_C_fit 26 (.if_icmp .gt 7) 3 29 := ⟨by decide +kernel, rfl⟩
theorem d_C_fit_29 : gD m_C_fit 29 (.iconst 1) 1 30 := ⟨by decide +kernel, rfl⟩
theorem d_C_fit_30 : gD m_C_fit 30 (.goto 4) 3 33 := ⟨by decide +kernel, rfl⟩
theorem d_C_fit_33 : gD m_C_fit 33 (.iconst 0) 1 34 := ⟨by decide +kernel, rfl⟩
theorem d_C_fit_34 : gD m_C_fit 34 .ireturn 1 35 := ⟨by decide +kernel, rfl⟩
theorem d_R_append_0 : gD m_R_append 0 (.aload_n 0) 1 1 := ⟨by decide +kernel, rfl⟩
theorem d_R_append_1 : gD m_R_append 1 (.getfield 15) 3 4 := ⟨by decide +kernel, rfl⟩
theorem d_R_append_4 : gD m_R_append 4 (.aload_n 0) 1 5 := ⟨by decide +kernel, rfl⟩
theorem d_R_append_5 : gD m_R_append 5 (.getfield 9) 3 8 := ⟨by decide +kernel, rfl⟩
theorem d_R_append_8 : gD m_R_append 8 .arraylength 1 9 := ⟨by decide +kernel, rfl⟩
theorem d_R_append_9 : gD m_R_append 9 (.if_icmp .ge 23) 3 12 := ⟨by decide +kernel, rfl⟩
theorem d_R_append_12 : gD m_R_append 12 (.aload_n 0) 1 13 := ⟨by decide +kernel, rfl⟩
theorem d_R_append_13 : gD m_R_append 13 (.getfield 9) 3 16 := ⟨by decide +kernel, rfl⟩
theorem d_R_append_16 : gD m_R_append 16 (.aload_n 0) 1 17 := ⟨by decide +kernel, rfl⟩
theorem d_R_append_17 : gD m_R_append 17 (.getfield 15) 3 20 := ⟨by decide +kernel, rfl⟩
theorem d_R_append_20 : gD m_R_append 20 (.iload_n 1) 1 21 := ⟨by decide +kernel, rfl⟩
theorem d_R_append_21 : gD m_R_append 21 .iastore 1 22 := ⟨by decide +kernel, rfl⟩
theorem d_R_append_22 : gD m_R_append 22 (.aload_n 0) 1 23 := ⟨by decide +kernel, rfl⟩
theorem d_R_append_23 : gD m_R_append 23 .dup 1 24 := ⟨by decide +kernel, rfl⟩
theorem d_R_append_24 : gD m_R_append 24 (.getfield 15) 3 27 := ⟨by decide +kernel, rfl⟩
theorem d_R_append_27 : gD m_R_append 27 (.iconst 1) 1 28 := ⟨by decide +kernel, rfl⟩
theorem d_R_append_28 : gD m_R_append 28 .iadd 1 29 := ⟨by decide +kernel, rfl⟩
theorem d_R_append_29 : gD m_R_append 29 (.putfield 15) 3 32 := ⟨by decide +kernel, rfl⟩
theorem d_R_append_32 : gD m_R_append 32 .return_ 1 33 := ⟨by decide +kernel, rfl⟩
theorem d_S_pages_0 : gD m_S_pages 0 (.aload_n 0) 1 1 := ⟨by decide +kernel, rfl⟩
theorem d_S_pages_1 : gD m_S_pages 1 (.getfield 18) 3 4 := ⟨by decide +kernel, rfl⟩
theorem d_S_pages_4 : gD m_S_pages 4 (.invokevirtual 103) 3 7 := ⟨by decide +kernel, rfl⟩
theorem d_S_pages_7 : gD m_S_pages 7 (.aload_n 0) 1 8 := ⟨by decide +kernel, rfl⟩
theorem d_S_pages_8 : gD m_S_pages 8 (.invokevirtual 106) 3 11 := ⟨by decide +kernel, rfl⟩
theorem d_S_pages_11 : gD m_S_pages 11 .iadd 1 12 := ⟨by decide +kernel, rfl⟩
theorem d_S_pages_12 : gD m_S_pages 12 (.aload_n 0) 1 13 := ⟨by decide +kernel, rfl⟩
theorem d_S_pages_13 : gD m_S_pages 13 (.getfield 12) 3 16 := ⟨by decide +kernel, rfl⟩
theorem d_S_pages_16 : gD m_S_pages 16 (.getfield 52) 3 19 := ⟨by decide +kernel, rfl⟩
theorem d_S_pages_19 : gD m_S_pages 19 .iadd 1 20 := ⟨by decide +kernel, rfl⟩
theorem d_S_pages_20 : gD m_S_pages 20 .ireturn 1 21 := ⟨by decide +kernel, rfl⟩
theorem d_T_indexHeight_0 : gD m_T_indexHeight 0 (.iconst 0) 1 1 := ⟨by decide +kernel, rfl⟩
theorem d_T_indexHeight_1 : gD m_T_indexHeight 1 (.istore_n 1) 1 2 := ⟨by decide +kernel, rfl⟩
theorem d_T_indexHeight_2 : gD m_T_indexHeight 2 (.aload_n 0) 1 3 := ⟨by decide +kernel, rfl⟩
theorem d_T_indexHeight_3 : gD m_T_indexHeight 3 (.invokevirtual 40) 3 6 := ⟨by decide +kernel, rfl⟩
theorem d_T_indexHeight_6 : gD m_T_indexHeight 6 (.istore_n 2) 1 7 := ⟨by decide +kernel, rfl⟩
theorem d_T_indexHeight_7 : gD m_T_indexHeight 7 (.iload_n 2) 1 8 := ⟨by decide +kernel, rfl⟩
theorem d_T_indexHeight_8 : gD m_T_indexHeight 8 (.iconst 1) 1 9 := ⟨by decide +kernel, rfl⟩
theorem d_T_indexHeight_9 : gD m_T_indexHeight 9 (.if_icmp .le 20) 3 12 := ⟨by decide +kernel, rfl⟩
theorem d_T_indexHeight_12 : gD m_T_indexHeight 12 (.iload_n 1) 1 13 := ⟨by decide +kernel, rfl⟩
theorem d_T_indexHeight_13 : gD m_T_indexHeight 13 (.bipush 64) 2 15 := ⟨by decide +kernel, rfl⟩
theorem d_T_indexHeight_15 : gD m_T_indexHeight 15 (.if_icmp .ge 14) 3 18 := ⟨by decide +kernel, rfl⟩
theorem d_T_indexHeight_18 : gD m_T_indexHeight 18 (.iload_n 2) 1 19 := ⟨by decide +kernel, rfl⟩
theorem d_T_indexHeight_19 : gD m_T_indexHeight 19 (.invokestatic 30) 3 22 := ⟨by decide +kernel, rfl⟩
theorem d_T_indexHeight_22 : gD m_T_indexHeight 22 (.istore_n 2) 1 23 := ⟨by decide +kernel, rfl⟩
theorem d_T_indexHeight_23 : gD m_T_indexHeight 23 (.iinc 1 1) 3 26 := ⟨by decide +kernel, rfl⟩
theorem d_T_indexHeight_26 : gD m_T_indexHeight 26 (.goto (-19)) 3 29 := ⟨by decide +kernel, rfl⟩
theorem d_T_indexHeight_29 : gD m_T_indexHeight 29 (.iload_n 1) 1 30 := ⟨by decide +kernel, rfl⟩
theorem d_T_indexHeight_30 : gD m_T_indexHeight 30 .ireturn 1 31 := ⟨by decide +kernel, rfl⟩
theorem d_T_indexLeaves_0 : gD m_T_indexLeaves 0 (.iconst 1) 1 1 := ⟨by decide +kernel, rfl⟩
theorem d_T_indexLeaves_1 : gD m_T_indexLeaves 1 (.aload_n 0) 1 2 := ⟨by decide +kernel, rfl⟩
theorem d_T_indexLeaves_2 : gD m_T_indexLeaves 2 (.getfield 27) 3 5 := ⟨by decide +kernel, rfl⟩
theorem d_T_indexLeaves_5 : gD m_T_indexLeaves 5 (.invokestatic 30) 3 8 := ⟨by decide +kernel, rfl⟩
theorem d_T_indexLeaves_8 : gD m_T_indexLeaves 8 (.invokestatic 34) 3 11 := ⟨by decide +kernel, rfl⟩
theorem d_T_indexLeaves_11 : gD m_T_indexLeaves 11 .ireturn 1 12 := ⟨by decide +kernel, rfl⟩
theorem d_S_leaves_0 : gD m_S_leaves 0 (.aload_n 0) 1 1 := ⟨by decide +kernel, rfl⟩
theorem d_S_leaves_1 : gD m_S_leaves 1 (.getfield 12) 3 4 := ⟨by decide +kernel, rfl⟩
theorem d_S_leaves_4 : gD m_S_leaves 4 (.getfield 52) 3 7 := ⟨by decide +kernel, rfl⟩
theorem d_S_leaves_7 : gD m_S_leaves 7 (.ifCond .ne 5) 3 10 := ⟨by decide +kernel, rfl⟩
theorem d_S_leaves_10 : gD m_S_leaves 10 (.iconst 1) 1 11 := ⟨by decide +kernel, rfl⟩
theorem d_S_leaves_11 : gD m_S_leaves 11 .ireturn 1 12 := ⟨by decide +kernel, rfl⟩
theorem d_S_leaves_12 : gD m_S_leaves 12 (.aload_n 0) 1 13 := ⟨by decide +kernel, rfl⟩
theorem d_S_leaves_13 : gD m_S_leaves 13 (.getfield 49) 3 16 := ⟨by decide +kernel, rfl⟩
theorem d_S_leaves_16 : gD m_S_leaves 16 (.aload_n 0) 1 17 := ⟨by decide +kernel, rfl⟩
theorem d_S_leaves_17 : gD m_S_leaves 17 (.getfield 12) 3 20 := ⟨by decide +kernel, rfl⟩
theorem d_S_leaves_20 : gD m_S_leaves 20 (.getfield 52) 3 23 := ⟨by decide +kernel, rfl⟩
theorem d_S_leaves_23 : gD m_S_leaves 23 .iadd 1 24 := ⟨by decide +kernel, rfl⟩
theorem d_S_leaves_24 : gD m_S_leaves 24 (.iconst 1) 1 25 := ⟨by decide +kernel, rfl⟩
theorem d_S_leaves_25 : gD m_S_leaves 25 .isub 1 26 := ⟨by decide +kernel, rfl⟩
theorem d_S_leaves_26 : gD m_S_leaves 26 (.iconst 4) 1 27 := ⟨by decide +kernel, rfl⟩
theorem d_S_leaves_27 : gD m_S_leaves 27 .idiv 1 28 := ⟨by decide +kernel, rfl⟩
theorem d_S_leaves_28 : gD m_S_leaves 28 (.aload_n 0) 1 29 := ⟨by decide +kernel, rfl⟩
theorem d_S_leaves_29 : gD m_S_leaves 29 (.getfield 49) 3 32 := ⟨by decide +kernel, rfl⟩
theorem d_S_leaves_32 : gD m_S_leaves 32 (.iconst 4) 1 33 := ⟨by decide +kernel, rfl⟩
theorem d_S_leaves_33 : gD m_S_leaves 33 .idiv 1 34 := ⟨by decide +kernel, rfl⟩
theorem d_S_leaves_34 : gD m_S_leaves 34 .isub 1 35 := ⟨by decide +kernel, rfl⟩
theorem d_S_leaves_35 : gD m_S_leaves 35 (.iconst 1) 1 36 := ⟨by decide +kernel, rfl⟩
theorem d_S_leaves_36 : gD m_S_leaves 36 .iadd 1 37 := ⟨by decide +kernel, rfl⟩
theorem d_S_leaves_37 : gD m_S_leaves 37 .ireturn 1 38 := ⟨by decide +kernel, rfl⟩
theorem d_B_readySet_0 : gD m_B_readySet 0 (.iconst 0) 1 1 := ⟨by decide +kernel, rfl⟩
theorem d_B_readySet_1 : gD m_B_readySet 1 (.istore_n 1) 1 2 := ⟨by decide +kernel, rfl⟩
theorem d_B_readySet_2 : gD m_B_readySet 2 (.iconst 0) 1 3 := ⟨by decide +kernel, rfl⟩
theorem d_B_readySet_3 : gD m_B_readySet 3 (.istore_n 2) 1 4 := ⟨by decide +kernel, rfl⟩
theorem d_B_readySet_4 : gD m_B_readySet 4 (.iload_n 2) 1 5 := ⟨by decide +kernel, rfl⟩
theorem d_B_readySet_5 : gD m_B_readySet 5 (.bipush 9) 2 7 := ⟨by decide +kernel, rfl⟩
theorem d_B_readySet_7 : gD m_B_readySet 7 (.if_icmp .ge 25) 3 10 := ⟨by decide +kernel, rfl⟩
theorem d_B_readySet_10 : gD m_B_readySet 10 (.aload_n 0) 1 11 := ⟨by decide +kernel, rfl⟩
theorem d_B_readySet_11 : gD m_B_readySet 11 (.getfield 9) 3 14 := ⟨by decide +kernel, rfl⟩
theorem d_B_readySet_14 : gD m_B_readySet 14 (.iload_n 2) 1 15 := ⟨by decide +kernel, rfl⟩
theorem d_B_readySet_15 : gD m_B_readySet 15 .iaload 1 16 := ⟨by decide +kernel, rfl⟩
theorem d_B_readySet_16 : gD m_B_readySet 16 (.iconst 2) 1 17 := ⟨by decide +kernel, rfl⟩
theorem d_B_readySet_17 : gD m_B_readySet 17 (.if_icmp .ne 9) 3 20 := ⟨by decide +kernel, rfl⟩
theorem d_B_readySet_20 : gD m_B_readySet 20 (.iload_n 1) 1 21 := ⟨by decide +kernel, rfl⟩
theorem d_B_readySet_21 : gD m_B_readySet 21 (.iconst 1) 1 22 := ⟨by decide +kernel, rfl⟩
theorem d_B_readySet_22 : gD m_B_readySet 22 (.iload_n 2) 1 23 := ⟨by decide +kernel, rfl⟩
theorem d_B_readySet_23 : gD m_B_readySet 23 .ishl 1 24 := ⟨by decide +kernel, rfl⟩
theorem d_B_readySet_24 : gD m_B_readySet 24 .ior 1 25 := ⟨by decide +kernel, rfl⟩
theorem d_B_readySet_25 : gD m_B_readySet 25 (.istore_n 1) 1 26 := ⟨by decide +kernel, rfl⟩
theorem d_B_readySet_26 : gD m_B_readySet 26 (.iinc 2 1) 3 29 := ⟨by decide +kernel, rfl⟩
theorem d_B_readySet_29 : gD m_B_readySet 29 (.goto (-25)) 3 32 := ⟨by decide +kernel, rfl⟩
theorem d_B_readySet_32 : gD m_B_readySet 32 (.iload_n 1) 1 33 := ⟨by decide +kernel, rfl⟩
theorem d_B_readySet_33 : gD m_B_readySet 33 .ireturn 1 34 := ⟨by decide +kernel, rfl⟩
theorem d_W_cheapest_0 : gD m_W_cheapest 0 (.iconst (-1)) 1 1 := ⟨by decide +kernel, rfl⟩
theorem d_W_cheapest_1 : gD m_W_cheapest 1 (.istore_n 2) 1 2 := ⟨by decide +kernel, rfl⟩
theorem d_W_cheapest_2 : gD m_W_cheapest 2 (.iconst 0) 1 3 := ⟨by decide +kernel, rfl⟩
theorem d_W_cheapest_3 : gD m_W_cheapest 3 (.istore_n 3) 1 4 := ⟨by decide +kernel, rfl⟩
theorem d_W_cheapest_4 : gD m_W_cheapest 4 (.iload_n 3) 1 5 := ⟨by decide +kernel, rfl⟩
theorem d_W_cheapest_5 : gD m_W_cheapest 5 (.bipush 9) 2 7 := ⟨by decide +kernel, rfl⟩
theorem d_W_cheapest_7 : gD m_W_cheapest 7 (.if_icmp .ge 55) 3 10 := ⟨by decide +kernel, rfl⟩
theorem d_W_cheapest_10 : gD m_W_cheapest 10 (.iload_n 1) 1 11 := ⟨by decide +kernel, rfl⟩
theorem d_W_cheapest_11 : gD m_W_cheapest 11 (.iload_n 3) 1 12 := ⟨by decide +kernel, rfl⟩
theorem d_W_cheapest_12 : gD m_W_cheapest 12 .ishr 1 13 := ⟨by decide +kernel, rfl⟩
theorem d_W_cheapest_13 : gD m_W_cheapest 13 (.iconst 1) 1 14 := ⟨by decide +kernel, rfl⟩
theorem d_W_cheapest_14 : gD m_W_cheapest 14 .iand 1 15 := ⟨by decide +kernel, rfl⟩
theorem d_W_cheapest_15 : gD m_W_cheapest 15 (.ifCond .eq 17) 3 18 := ⟨by decide +kernel, rfl⟩
theorem d_W_cheapest_18 : gD m_W_cheapest 18 (.aload_n 0) 1 19 := ⟨by decide +kernel, rfl⟩
theorem d_W_cheapest_19 : gD m_W_cheapest 19 (.getfield 9) 3 22 := ⟨by decide +kernel, rfl⟩
theorem d_W_cheapest_22 : gD m_W_cheapest 22 (.iload_n 3) 1 23 := ⟨by decide +kernel, rfl⟩
theorem d_W_cheapest_23 : gD m_W_cheapest 23 .iaload 1 24 := ⟨by decide +kernel, rfl⟩
theorem d_W_cheapest_24 : gD m_W_cheapest 24 (.iconst (-1)) 1 25 := ⟨by decide +kernel, rfl⟩
theorem d_W_cheapest_25 : gD m_W_cheapest 25 (.if_icmp .eq 7) 3 28 := ⟨by decide +kernel, rfl⟩
theorem d_W_cheapest_28 : gD m_W_cheapest 28 (.iconst 1) 1 29 := ⟨by decide +kernel, rfl⟩
theorem d_W_cheapest_29 : gD m_W_cheapest 29 (.goto 4) 3 32 := ⟨by decide +kernel, rfl⟩
theorem d_W_cheapest_32 : gD m_W_cheapest 32 (.iconst 0) 1 33 := ⟨by decide +kernel, rfl⟩
theorem d_W_cheapest_33 : gD m_W_cheapest 33 (.istore 4) 2 35 := ⟨by decide +kernel, rfl⟩
theorem d_W_cheapest_35 : gD m_W_cheapest 35 (.iload 4) 2 37 := ⟨by decide +kernel, rfl⟩
theorem d_W_cheapest_37 : gD m_W_cheapest 37 (.ifCond .eq 19) 3 40 := ⟨by decide +kernel, rfl⟩
theorem d_W_cheapest_40 : gD m_W_cheapest 40 (.aload_n 0) 1 41 := ⟨by decide +kernel, rfl⟩
theorem d_W_cheapest_41 : gD m_W_cheapest 41 (.getfield 9) 3 44 := ⟨by decide +kernel, rfl⟩
theorem d_W_cheapest_44 : gD m_W_cheapest 44 (.iload_n 3) 1 45 := ⟨by decide +kernel, rfl⟩
theorem d_W_cheapest_45 : gD m_W_cheapest 45 .iaload 1 46 := ⟨by decide +kernel, rfl⟩
theorem d_W_cheapest_46 : gD m_W_cheapest 46 (.aload_n 0) 1 47 := ⟨by decide +kernel, rfl⟩
theorem d_W_cheapest_47 : gD m_W_cheapest 47 (.iload_n 2) 1 48 := ⟨by decide +kernel, rfl⟩
theorem d_W_cheapest_48 : gD m_W_cheapest 48 (.invokevirtual 43) 3 51 := ⟨by decide +kernel, rfl⟩
theorem d_W_cheapest_51 : gD m_W_cheapest 51 (.if_icmp .ge 5) 3 54 := ⟨by decide +kernel, rfl⟩
theorem d_W_cheapest_54 : gD m_W_cheapest 54 (.iload_n 3) 1 55 := ⟨by decide +kernel, rfl⟩
theorem d_W_cheapest_55 : gD m_W_cheapest 55 (.istore_n 2) 1 56 := ⟨by decide +kernel, rfl⟩
theorem d_W_cheapest_56 : gD m_W_cheapest 56 (.iinc 3 1) 3 59 := ⟨by decide +kernel, rfl⟩
theorem d_W_cheapest_59 : gD m_W_cheapest 59 (.goto (-55)) 3 62 := ⟨by decide +kernel, rfl⟩
theorem d_W_cheapest_62 : gD m_W_cheapest 62 (.iload_n 2) 1 63 := ⟨by decide +kernel, rfl⟩
theorem d_W_cheapest_63 : gD m_W_cheapest 63 .ireturn 1 64 := ⟨by decide +kernel, rfl⟩
theorem d_W_at_0 : gD m_W_at 0 (.iload_n 1) 1 1 := ⟨by decide +kernel, rfl⟩
theorem d_W_at_1 : gD m_W_at 1 (.iconst (-1)) 1 2 := ⟨by decide +kernel, rfl⟩
theorem d_W_at_2 : gD m_W_at 2 (.if_icmp .ne 10) 3 5 := ⟨by decide +kernel, rfl⟩
theorem d_W_at_5 : gD m_W_at 5 (.aload_n 0) 1 6 := ⟨by decide +kernel, rfl⟩
theorem d_W_at_6 : gD m_W_at 6 (.getfield 21) 3 9 := ⟨by decide +kernel, rfl⟩
theorem d_W_at_9 : gD m_W_at 9 (.goto 9) 3 12 := ⟨by decide +kernel, rfl⟩
theorem d_W_at_12 : gD m_W_at 12 (.aload_n 0) 1 13 := ⟨by decide +kernel, rfl⟩
theorem d_W_at_13 : gD m_W_at 13 (.getfield 9) 3 16 := ⟨by decide +kernel, rfl⟩
theorem d_W_at_16 : gD m_W_at 16 (.iload_n 1) 1 17 := ⟨by decide +kernel, rfl⟩
theorem d_W_at_17 : gD m_W_at 17 .iaload 1 18 := ⟨by decide +kernel, rfl⟩
theorem d_W_at_18 : gD m_W_at 18 .ireturn 1 19 := ⟨by decide +kernel, rfl⟩
theorem d_A_touchPages_0 : gD m_A_touchPages 0 (.aload_n 0) 1 1 := ⟨by decide +kernel, rfl⟩
theorem d_A_touchPages_1 : gD m_A_touchPages 1 (.getfield 44) 3 4 := ⟨by decide +kernel, rfl⟩
theorem d_A_touchPages_4 : gD m_A_touchPages 4 (.invokevirtual 295) 3 7 := ⟨by decide +kernel, rfl⟩
theorem d_A_touchPages_7 : gD m_A_touchPages 7 (.aload_n 0) 1 8 := ⟨by decide +kernel, rfl⟩
end
section
/-! decode rows (wip/emit.py) -/
theorem d_A_touchPages_8 : gD m_A_touchPages 8 (.getfield 88) 3 11 := ⟨by decide +kernel, rfl⟩
theorem d_A_touchPages_11 : gD m_A_touchPages 11 (.iconst (-1)) 1 12 := ⟨by decide +kernel, rfl⟩
theorem d_A_touchPages_12 : gD m_A_touchPages 12 (.if_icmp .ne 10) 3 15 := ⟨by decide +kernel, rfl⟩
theorem d_A_touchPages_15 : gD m_A_touchPages 15 (.aload_n 0) 1 16 := ⟨by decide +kernel, rfl⟩
theorem d_A_touchPages_16 : gD m_A_touchPages 16 (.invokevirtual 298) 3 19 := ⟨by decide +kernel, rfl⟩
theorem d_A_touchPages_19 : gD m_A_touchPages 19 (.goto 11) 3 22 := ⟨by decide +kernel, rfl⟩
theorem d_A_touchPages_22 : gD m_A_touchPages 22 (.aload_n 0) 1 23 := ⟨by decide +kernel, rfl⟩
theorem d_A_touchPages_23 : gD m_A_touchPages 23 (.aload_n 0) 1 24 := ⟨by decide +kernel, rfl⟩
theorem d_A_touchPages_24 : gD m_A_touchPages 24 (.getfield 88) 3 27 := ⟨by decide +kernel, rfl⟩
theorem d_A_touchPages_27 : gD m_A_touchPages 27 (.invokevirtual 301) 3 30 := ⟨by decide +kernel, rfl⟩
theorem d_A_touchPages_30 : gD m_A_touchPages 30 .return_ 1 31 := ⟨by decide +kernel, rfl⟩
theorem d_P_countAnew_0 : gD m_P_countAnew 0 (.aload_n 0) 1 1 := ⟨by decide +kernel, rfl⟩
theorem d_P_countAnew_1 : gD m_P_countAnew 1 (.iconst 0) 1 2 := ⟨by decide +kernel, rfl⟩
theorem d_P_countAnew_2 : gD m_P_countAnew 2 (.putfield 28) 3 5 := ⟨by decide +kernel, rfl⟩
theorem d_P_countAnew_5 : gD m_P_countAnew 5 (.aload_n 0) 1 6 := ⟨by decide +kernel, rfl⟩
theorem d_P_countAnew_6 : gD m_P_countAnew 6 (.iconst 0) 1 7 := ⟨by decide +kernel, rfl⟩
theorem d_P_countAnew_7 : gD m_P_countAnew 7 (.putfield 32) 3 10 := ⟨by decide +kernel, rfl⟩
theorem d_P_countAnew_10 : gD m_P_countAnew 10 .return_ 1 11 := ⟨by decide +kernel, rfl⟩
theorem d_A_touchHeap_0 : gD m_A_touchHeap 0 (.aload_n 0) 1 1 := ⟨by decide +kernel, rfl⟩
theorem d_A_touchHeap_1 : gD m_A_touchHeap 1 (.getfield 12) 3 4 := ⟨by decide +kernel, rfl⟩
theorem d_A_touchHeap_4 : gD m_A_touchHeap 4 (.invokevirtual 304) 3 7 := ⟨by decide +kernel, rfl⟩
theorem d_A_touchHeap_7 : gD m_A_touchHeap 7 (.istore_n 1) 1 8 := ⟨by decide +kernel, rfl⟩
theorem d_A_touchHeap_8 : gD m_A_touchHeap 8 (.iconst 0) 1 9 := ⟨by decide +kernel, rfl⟩
theorem d_A_touchHeap_9 : gD m_A_touchHeap 9 (.istore_n 2) 1 10 := ⟨by decide +kernel, rfl⟩
theorem d_A_touchHeap_10 : gD m_A_touchHeap 10 (.iload_n 2) 1 11 := ⟨by decide +kernel, rfl⟩
theorem d_A_touchHeap_11 : gD m_A_touchHeap 11 (.iload_n 1) 1 12 := ⟨by decide +kernel, rfl⟩
theorem d_A_touchHeap_12 : gD m_A_touchHeap 12 (.if_icmp .ge 19) 3 15 := ⟨by decide +kernel, rfl⟩
theorem d_A_touchHeap_15 : gD m_A_touchHeap 15 (.aload_n 0) 1 16 := ⟨by decide +kernel, rfl⟩
theorem d_A_touchHeap_16 : gD m_A_touchHeap 16 (.getfield 44) 3 19 := ⟨by decide +kernel, rfl⟩
theorem d_A_touchHeap_19 : gD m_A_touchHeap 19 (.iconst (-1)) 1 20 := ⟨by decide +kernel, rfl⟩
theorem d_A_touchHeap_20 : gD m_A_touchHeap 20 (.iconst 0) 1 21 := ⟨by decide +kernel, rfl⟩
theorem d_A_touchHeap_21 : gD m_A_touchHeap 21 (.iload_n 2) 1 22 := ⟨by decide +kernel, rfl⟩
theorem d_A_touchHeap_22 : gD m_A_touchHeap 22 (.invokevirtual 307) 3 25 := ⟨by decide +kernel, rfl⟩
theorem d_A_touchHeap_25 : gD m_A_touchHeap 25 (.iinc 2 1) 3 28 := ⟨by decide +kernel, rfl⟩
theorem d_A_touchHeap_28 : gD m_A_touchHeap 28 (.goto (-18)) 3 31 := ⟨by decide +kernel, rfl⟩
theorem d_A_touchHeap_31 : gD m_A_touchHeap 31 .return_ 1 32 := ⟨by decide +kernel, rfl⟩
theorem d_P_touch_0 : gD m_P_touch 0 (.iload_n 1) 1 1 := ⟨by decide +kernel, rfl⟩
theorem d_P_touch_1 : gD m_P_touch 1 (.iconst 1) 1 2 := ⟨by decide +kernel, rfl⟩
theorem d_P_touch_2 : gD m_P_touch 2 .iadd 1 3 := ⟨by decide +kernel, rfl⟩
theorem d_P_touch_3 : gD m_P_touch 3 (.iconst 4) 1 4 := ⟨by decide +kernel, rfl⟩
theorem d_P_touch_4 : gD m_P_touch 4 .imul 1 5 := ⟨by decide +kernel, rfl⟩
theorem d_P_touch_5 : gD m_P_touch 5 (.iload_n 2) 1 6 := ⟨by decide +kernel, rfl⟩
theorem d_P_touch_6 : gD m_P_touch 6 .iadd 1 7 := ⟨by decide +kernel, rfl⟩
theorem d_P_touch_7 : gD m_P_touch 7 (.bipush 16) 2 9 := ⟨by decide +kernel, rfl⟩
theorem d_P_touch_9 : gD m_P_touch 9 .imul 1 10 := ⟨by decide +kernel, rfl⟩
theorem d_P_touch_10 : gD m_P_touch 10 (.iload_n 3) 1 11 := ⟨by decide +kernel, rfl⟩
theorem d_P_touch_11 : gD m_P_touch 11 .iadd 1 12 := ⟨by decide +kernel, rfl⟩
theorem d_P_touch_12 : gD m_P_touch 12 (.istore 4) 2 14 := ⟨by decide +kernel, rfl⟩
theorem d_P_touch_14 : gD m_P_touch 14 (.aload_n 0) 1 15 := ⟨by decide +kernel, rfl⟩
theorem d_P_touch_15 : gD m_P_touch 15 .dup 1 16 := ⟨by decide +kernel, rfl⟩
theorem d_P_touch_16 : gD m_P_touch 16 (.getfield 28) 3 19 := ⟨by decide +kernel, rfl⟩
theorem d_P_touch_19 : gD m_P_touch 19 (.iconst 1) 1 20 := ⟨by decide +kernel, rfl⟩
theorem d_P_touch_20 : gD m_P_touch 20 .iadd 1 21 := ⟨by decide +kernel, rfl⟩
theorem d_P_touch_21 : gD m_P_touch 21 (.putfield 28) 3 24 := ⟨by decide +kernel, rfl⟩
theorem d_P_touch_24 : gD m_P_touch 24 (.aload_n 0) 1 25 := ⟨by decide +kernel, rfl⟩
theorem d_P_touch_25 : gD m_P_touch 25 (.iload 4) 2 27 := ⟨by decide +kernel, rfl⟩
theorem d_P_touch_27 : gD m_P_touch 27 (.invokevirtual 35) 3 30 := ⟨by decide +kernel, rfl⟩
theorem d_P_touch_30 : gD m_P_touch 30 (.istore 5) 2 32 := ⟨by decide +kernel, rfl⟩
theorem d_P_touch_32 : gD m_P_touch 32 (.iload 5) 2 34 := ⟨by decide +kernel, rfl⟩
theorem d_P_touch_34 : gD m_P_touch 34 (.iconst (-1)) 1 35 := ⟨by decide +kernel, rfl⟩
theorem d_P_touch_35 : gD m_P_touch 35 (.if_icmp .ne 28) 3 38 := ⟨by decide +kernel, rfl⟩
theorem d_P_touch_38 : gD m_P_touch 38 (.aload_n 0) 1 39 := ⟨by decide +kernel, rfl⟩
theorem d_P_touch_39 : gD m_P_touch 39 .dup 1 40 := ⟨by decide +kernel, rfl⟩
theorem d_P_touch_40 : gD m_P_touch 40 (.getfield 32) 3 43 := ⟨by decide +kernel, rfl⟩
theorem d_P_touch_43 : gD m_P_touch 43 (.iconst 1) 1 44 := ⟨by decide +kernel, rfl⟩
theorem d_P_touch_44 : gD m_P_touch 44 .iadd 1 45 := ⟨by decide +kernel, rfl⟩
theorem d_P_touch_45 : gD m_P_touch 45 (.putfield 32) 3 48 := ⟨by decide +kernel, rfl⟩
theorem d_P_touch_48 : gD m_P_touch 48 (.aload_n 0) 1 49 := ⟨by decide +kernel, rfl⟩
theorem d_P_touch_49 : gD m_P_touch 49 (.invokevirtual 39) 3 52 := ⟨by decide +kernel, rfl⟩
theorem d_P_touch_52 : gD m_P_touch 52 (.istore 5) 2 54 := ⟨by decide +kernel, rfl⟩
theorem d_P_touch_54 : gD m_P_touch 54 (.aload_n 0) 1 55 := ⟨by decide +kernel, rfl⟩
theorem d_P_touch_55 : gD m_P_touch 55 (.getfield 20) 3 58 := ⟨by decide +kernel, rfl⟩
theorem d_P_touch_58 : gD m_P_touch 58 (.iload 5) 2 60 := ⟨by decide +kernel, rfl⟩
theorem d_P_touch_60 : gD m_P_touch 60 (.iload 4) 2 62 := ⟨by decide +kernel, rfl⟩
theorem d_P_touch_62 : gD m_P_touch 62 .iastore 1 63 := ⟨by decide +kernel, rfl⟩
theorem d_P_touch_63 : gD m_P_touch 63 (.aload_n 0) 1 64 := ⟨by decide +kernel, rfl⟩
theorem d_P_touch_64 : gD m_P_touch 64 (.getfield 24) 3 67 := ⟨by decide +kernel, rfl⟩
theorem d_P_touch_67 : gD m_P_touch 67 (.iload 5) 2 69 := ⟨by decide +kernel, rfl⟩
theorem d_P_touch_69 : gD m_P_touch 69 (.iconst 1) 1 70 := ⟨by decide +kernel, rfl⟩
theorem d_P_touch_70 : gD m_P_touch 70 .bastore 1 71 := ⟨by decide +kernel, rfl⟩
theorem d_P_touch_71 : gD m_P_touch 71 .return_ 1 72 := ⟨by decide +kernel, rfl⟩
theorem d_P_frameOf_0 : gD m_P_frameOf 0 (.iconst 0) 1 1 := ⟨by decide +kernel, rfl⟩
theorem d_P_frameOf_1 : gD m_P_frameOf 1 (.istore_n 2) 1 2 := ⟨by decide +kernel, rfl⟩
theorem d_P_frameOf_2 : gD m_P_frameOf 2 (.iload_n 2) 1 3 := ⟨by decide +kernel, rfl⟩
theorem d_P_frameOf_3 : gD m_P_frameOf 3 (.aload_n 0) 1 4 := ⟨by decide +kernel, rfl⟩
theorem d_P_frameOf_4 : gD m_P_frameOf 4 (.getfield 20) 3 7 := ⟨by decide +kernel, rfl⟩
theorem d_P_frameOf_7 : gD m_P_frameOf 7 .arraylength 1 8 := ⟨by decide +kernel, rfl⟩
theorem d_P_frameOf_8 : gD m_P_frameOf 8 (.if_icmp .ge 21) 3 11 := ⟨by decide +kernel, rfl⟩
theorem d_P_frameOf_11 : gD m_P_frameOf 11 (.aload_n 0) 1 12 := ⟨by decide +kernel, rfl⟩
theorem d_P_frameOf_12 : gD m_P_frameOf 12 (.getfield 20) 3 15 := ⟨by decide +kernel, rfl⟩
theorem d_P_frameOf_15 : gD m_P_frameOf 15 (.iload_n 2) 1 16 := ⟨by decide +kernel, rfl⟩
theorem d_P_frameOf_16 : gD m_P_frameOf 16 .iaload 1 17 := ⟨by decide +kernel, rfl⟩
theorem d_P_frameOf_17 : gD m_P_frameOf 17 (.iload_n 1) 1 18 := ⟨by decide +kernel, rfl⟩
theorem d_P_frameOf_18 : gD m_P_frameOf 18 (.if_icmp .ne 5) 3 21 := ⟨by decide +kernel, rfl⟩
theorem d_P_frameOf_21 : gD m_P_frameOf 21 (.iload_n 2) 1 22 := ⟨by decide +kernel, rfl⟩
theorem d_P_frameOf_22 : gD m_P_frameOf 22 .ireturn 1 23 := ⟨by decide +kernel, rfl⟩
theorem d_P_frameOf_23 : gD m_P_frameOf 23 (.iinc 2 1) 3 26 := ⟨by decide +kernel, rfl⟩
theorem d_P_frameOf_26 : gD m_P_frameOf 26 (.goto (-24)) 3 29 := ⟨by decide +kernel, rfl⟩
theorem d_P_frameOf_29 : gD m_P_frameOf 29 (.iconst (-1)) 1 30 := ⟨by decide +kernel, rfl⟩
theorem d_P_frameOf_30 : gD m_P_frameOf 30 .ireturn 1 31 := ⟨by decide +kernel, rfl⟩
theorem d_P_freeFrame_0 : gD m_P_freeFrame 0 (.iconst 0) 1 1 := ⟨by decide +kernel, rfl⟩
theorem d_P_freeFrame_1 : gD m_P_freeFrame 1 (.istore_n 1) 1 2 := ⟨by decide +kernel, rfl⟩
theorem d_P_freeFrame_2 : gD m_P_freeFrame 2 (.iload_n 1) 1 3 := ⟨by decide +kernel, rfl⟩
theorem d_P_freeFrame_3 : gD m_P_freeFrame 3 (.aload_n 0) 1 4 := ⟨by decide +kernel, rfl⟩
theorem d_P_freeFrame_4 : gD m_P_freeFrame 4 (.getfield 20) 3 7 := ⟨by decide +kernel, rfl⟩
theorem d_P_freeFrame_7 : gD m_P_freeFrame 7 .arraylength 1 8 := ⟨by decide +kernel, rfl⟩
theorem d_P_freeFrame_8 : gD m_P_freeFrame 8 (.if_icmp .ge 35) 3 11 := ⟨by decide +kernel, rfl⟩
theorem d_P_freeFrame_11 : gD m_P_freeFrame 11 (.aload_n 0) 1 12 := ⟨by decide +kernel, rfl⟩
theorem d_P_freeFrame_12 : gD m_P_freeFrame 12 (.getfield 24) 3 15 := ⟨by decide +kernel, rfl⟩
theorem d_P_freeFrame_15 : gD m_P_freeFrame 15 (.aload_n 0) 1 16 := ⟨by decide +kernel, rfl⟩
theorem d_P_freeFrame_16 : gD m_P_freeFrame 16 (.getfield 43) 3 19 := ⟨by decide +kernel, rfl⟩
theorem d_P_freeFrame_19 : gD m_P_freeFrame 19 .baload 1 20 := ⟨by decide +kernel, rfl⟩
theorem d_P_freeFrame_20 : gD m_P_freeFrame 20 (.ifCond .eq 23) 3 23 := ⟨by decide +kernel, rfl⟩
theorem d_P_freeFrame_23 : gD m_P_freeFrame 23 (.aload_n 0) 1 24 := ⟨by decide +kernel, rfl⟩
theorem d_P_freeFrame_24 : gD m_P_freeFrame 24 (.getfield 24) 3 27 := ⟨by decide +kernel, rfl⟩
theorem d_P_freeFrame_27 : gD m_P_freeFrame 27 (.aload_n 0) 1 28 := ⟨by decide +kernel, rfl⟩
theorem d_P_freeFrame_28 : gD m_P_freeFrame 28 (.getfield 43) 3 31 := ⟨by decide +kernel, rfl⟩
theorem d_P_freeFrame_31 : gD m_P_freeFrame 31 (.iconst 0) 1 32 := ⟨by decide +kernel, rfl⟩
theorem d_P_freeFrame_32 : gD m_P_freeFrame 32 .bastore 1 33 := ⟨by decide +kernel, rfl⟩
theorem d_P_freeFrame_33 : gD m_P_freeFrame 33 (.aload_n 0) 1 34 := ⟨by decide +kernel, rfl⟩
theorem d_P_freeFrame_34 : gD m_P_freeFrame 34 (.invokevirtual 46) 3 37 := ⟨by decide +kernel, rfl⟩
theorem d_P_freeFrame_37 : gD m_P_freeFrame 37 (.iinc 1 1) 3 40 := ⟨by decide +kernel, rfl⟩
theorem d_P_freeFrame_40 : gD m_P_freeFrame 40 (.goto (-38)) 3 43 := ⟨by decide +kernel, rfl⟩
theorem d_P_freeFrame_43 : gD m_P_freeFrame 43 (.aload_n 0) 1 44 := ⟨by decide +kernel, rfl⟩
theorem d_P_freeFrame_44 : gD m_P_freeFrame 44 (.getfield 43) 3 47 := ⟨by decide +kernel, rfl⟩
theorem d_P_freeFrame_47 : gD m_P_freeFrame 47 (.istore_n 1) 1 48 := ⟨by decide +kernel, rfl⟩
theorem d_P_freeFrame_48 : gD m_P_freeFrame 48 (.aload_n 0) 1 49 := ⟨by decide +kernel, rfl⟩
theorem d_P_freeFrame_49 : gD m_P_freeFrame 49 (.invokevirtual 46) 3 52 := ⟨by decide +kernel, rfl⟩
theorem d_P_freeFrame_52 : gD m_P_freeFrame 52 (.iload_n 1) 1 53 := ⟨by decide +kernel, rfl⟩
theorem d_P_freeFrame_53 : gD m_P_freeFrame 53 .ireturn 1 54 := ⟨by decide +kernel, rfl⟩
theorem d_P_moveHand_0 : gD m_P_moveHand 0 (.aload_n 0) 1 1 := ⟨by decide +kernel, rfl⟩
theorem d_P_moveHand_1 : gD m_P_moveHand 1 (.aload_n 0) 1 2 := ⟨by decide +kernel, rfl⟩
theorem d_P_moveHand_2 : gD m_P_moveHand 2 (.getfield 43) 3 5 := ⟨by decide +kernel, rfl⟩
theorem d_P_moveHand_5 : gD m_P_moveHand 5 (.iconst 1) 1 6 := ⟨by decide +kernel, rfl⟩
theorem d_P_moveHand_6 : gD m_P_moveHand 6 .iadd 1 7 := ⟨by decide +kernel, rfl⟩
theorem d_P_moveHand_7 : gD m_P_moveHand 7 (.aload_n 0) 1 8 := ⟨by decide +kernel, rfl⟩
theorem d_P_moveHand_8 : gD m_P_moveHand 8 (.getfield 20) 3 11 := ⟨by decide +kernel, rfl⟩
theorem d_P_moveHand_11 : gD m_P_moveHand 11 .arraylength 1 12 := ⟨by decide +kernel, rfl⟩
theorem d_P_moveHand_12 : gD m_P_moveHand 12 (.if_icmp .ge 12) 3 15 := ⟨by decide +kernel, rfl⟩
theorem d_P_moveHand_15 : gD m_P_moveHand 15 (.aload_n 0) 1 16 := ⟨by decide +kernel, rfl⟩
theorem d_P_moveHand_16 : gD m_P_moveHand 16 (.getfield 43) 3 19 := ⟨by decide +kernel, rfl⟩
theorem d_P_moveHand_19 : gD m_P_moveHand 19 (.iconst 1) 1 20 := ⟨by decide +kernel, rfl⟩
theorem d_P_moveHand_20 : gD m_P_moveHand 20 .iadd 1 21 := ⟨by decide +kernel, rfl⟩
theorem d_P_moveHand_21 : gD m_P_moveHand 21 (.goto 4) 3 24 := ⟨by decide +kernel, rfl⟩
theorem d_P_moveHand_24 : gD m_P_moveHand 24 (.iconst 0) 1 25 := ⟨by decide +kernel, rfl⟩
theorem d_P_moveHand_25 : gD m_P_moveHand 25 (.putfield 43) 3 28 := ⟨by decide +kernel, rfl⟩
theorem d_P_moveHand_28 : gD m_P_moveHand 28 .return_ 1 29 := ⟨by decide +kernel, rfl⟩
theorem d_A_touchIndex_0 : gD m_A_touchIndex 0 (.aload_n 0) 1 1 := ⟨by decide +kernel, rfl⟩
theorem d_A_touchIndex_1 : gD m_A_touchIndex 1 (.getfield 28) 3 4 := ⟨by decide +kernel, rfl⟩
theorem d_A_touchIndex_4 : gD m_A_touchIndex 4 (.aload_n 0) 1 5 := ⟨by decide +kernel, rfl⟩
theorem d_A_touchIndex_5 : gD m_A_touchIndex 5 (.getfield 19) 3 8 := ⟨by decide +kernel, rfl⟩
theorem d_A_touchIndex_8 : gD m_A_touchIndex 8 (.iload_n 1) 1 9 := ⟨by decide +kernel, rfl⟩
theorem d_A_touchIndex_9 : gD m_A_touchIndex 9 (.invokevirtual 310) 3 12 := ⟨by decide +kernel, rfl⟩
theorem d_A_touchIndex_12 : gD m_A_touchIndex 12 (.aload_n 0) 1 13 := ⟨by decide +kernel, rfl⟩
theorem d_A_touchIndex_13 : gD m_A_touchIndex 13 (.getfield 28) 3 16 := ⟨by decide +kernel, rfl⟩
theorem d_A_touchIndex_16 : gD m_A_touchIndex 16 (.invokevirtual 314) 3 19 := ⟨by decide +kernel, rfl⟩
theorem d_A_touchIndex_19 : gD m_A_touchIndex 19 (.istore_n 2) 1 20 := ⟨by decide +kernel, rfl⟩
theorem d_A_touchIndex_20 : gD m_A_touchIndex 20 (.aload_n 0) 1 21 := ⟨by decide +kernel, rfl⟩
theorem d_A_touchIndex_21 : gD m_A_touchIndex 21 (.getfield 12) 3 24 := ⟨by decide +kernel, rfl⟩
theorem d_A_touchIndex_24 : gD m_A_touchIndex 24 (.invokevirtual 188) 3 27 := ⟨by decide +kernel, rfl⟩
theorem d_A_touchIndex_27 : gD m_A_touchIndex 27 (.istore_n 3) 1 28 := ⟨by decide +kernel, rfl⟩
theorem d_A_touchIndex_28 : gD m_A_touchIndex 28 (.iload_n 3) 1 29 := ⟨by decide +kernel, rfl⟩
theorem d_A_touchIndex_29 : gD m_A_touchIndex 29 (.iconst 1) 1 30 := ⟨by decide +kernel, rfl⟩
theorem d_A_touchIndex_30 : gD m_A_touchIndex 30 (.if_icmp .lt 23) 3 33 := ⟨by decide +kernel, rfl⟩
theorem d_A_touchIndex_33 : gD m_A_touchIndex 33 (.aload_n 0) 1 34 := ⟨by decide +kernel, rfl⟩
theorem d_A_touchIndex_34 : gD m_A_touchIndex 34 (.getfield 44) 3 37 := ⟨by decide +kernel, rfl⟩
theorem d_A_touchIndex_37 : gD m_A_touchIndex 37 (.iload_n 1) 1 38 := ⟨by decide +kernel, rfl⟩
theorem d_A_touchIndex_38 : gD m_A_touchIndex 38 (.iload_n 3) 1 39 := ⟨by decide +kernel, rfl⟩
theorem d_A_touchIndex_39 : gD m_A_touchIndex 39 (.iload_n 2) 1 40 := ⟨by decide +kernel, rfl⟩
theorem d_A_touchIndex_40 : gD m_A_touchIndex 40 (.iload_n 3) 1 41 := ⟨by decide +kernel, rfl⟩
theorem d_A_touchIndex_41 : gD m_A_touchIndex 41 (.invokestatic 317) 3 44 := ⟨by decide +kernel, rfl⟩
theorem d_A_touchIndex_44 : gD m_A_touchIndex 44 (.invokevirtual 307) 3 47 := ⟨by decide +kernel, rfl⟩
theorem d_A_touchIndex_47 : gD m_A_touchIndex 47 (.iinc 3 (-1)) 3 50 := ⟨by decide +kernel, rfl⟩
theorem d_A_touchIndex_50 : gD m_A_touchIndex 50 (.goto (-22)) 3 53 := ⟨by decide +kernel, rfl⟩
theorem d_A_touchIndex_53 : gD m_A_touchIndex 53 (.aload_n 0) 1 54 := ⟨by decide +kernel, rfl⟩
theorem d_A_touchIndex_54 : gD m_A_touchIndex 54 (.getfield 28) 3 57 := ⟨by decide +kernel, rfl⟩
theorem d_A_touchIndex_57 : gD m_A_touchIndex 57 (.invokevirtual 320) 3 60 := ⟨by decide +kernel, rfl⟩
theorem d_A_touchIndex_60 : gD m_A_touchIndex 60 (.istore_n 3) 1 61 := ⟨by decide +kernel, rfl⟩
theorem d_A_touchIndex_61 : gD m_A_touchIndex 61 (.iconst 0) 1 62 := ⟨by decide +kernel, rfl⟩
theorem d_A_touchIndex_62 : gD m_A_touchIndex 62 (.istore 4) 2 64 := ⟨by decide +kernel, rfl⟩
theorem d_A_touchIndex_64 : gD m_A_touchIndex 64 (.iload 4) 2 66 := ⟨by decide +kernel, rfl⟩
theorem d_A_touchIndex_66 : gD m_A_touchIndex 66 (.iload_n 3) 1 67 := ⟨by decide +kernel, rfl⟩
theorem d_A_touchIndex_67 : gD m_A_touchIndex 67 (.if_icmp .ge 22) 3 70 := ⟨by decide +kernel, rfl⟩
theorem d_A_touchIndex_70 : gD m_A_touchIndex 70 (.aload_n 0) 1 71 := ⟨by decide +kernel, rfl⟩
theorem d_A_touchIndex_71 : gD m_A_touchIndex 71 (.getfield 44) 3 74 := ⟨by decide +kernel, rfl⟩
theorem d_A_touchIndex_74 : gD m_A_touchIndex 74 (.iload_n 1) 1 75 := ⟨by decide +kernel, rfl⟩
theorem d_A_touchIndex_75 : gD m_A_touchIndex 75 (.iconst 0) 1 76 := ⟨by decide +kernel, rfl⟩
theorem d_A_touchIndex_76 : gD m_A_touchIndex 76 (.iload_n 2) 1 77 := ⟨by decide +kernel, rfl⟩
theorem d_A_touchIndex_77 : gD m_A_touchIndex 77 (.iload 4) 2 79 := ⟨by decide +kernel, rfl⟩
theorem d_A_touchIndex_79 : gD m_A_touchIndex 79 .iadd 1 80 := ⟨by decide +kernel, rfl⟩
theorem d_A_touchIndex_80 : gD m_A_touchIndex 80 (.invokevirtual 307) 3 83 := ⟨by decide +kernel, rfl⟩
theorem d_A_touchIndex_83 : gD m_A_touchIndex 83 (.iinc 4 1) 3 86 := ⟨by decide +kernel, rfl⟩
theorem d_A_touchIndex_86 : gD m_A_touchIndex 86 (.goto (-22)) 3 89 := ⟨by decide +kernel, rfl⟩
theorem d_A_touchIndex_89 : gD m_A_touchIndex 89 (.aload_n 0) 1 90 := ⟨by decide +kernel, rfl⟩
theorem d_A_touchIndex_90 : gD m_A_touchIndex 90 (.getfield 28) 3 93 := ⟨by decide +kernel, rfl⟩
theorem d_A_touchIndex_93 : gD m_A_touchIndex 93 (.invokevirtual 323) 3 96 := ⟨by decide +kernel, rfl⟩
theorem d_A_touchIndex_96 : gD m_A_touchIndex 96 (.iconst 0) 1 97 := ⟨by decide +kernel, rfl⟩
theorem d_A_touchIndex_97 : gD m_A_touchIndex 97 (.istore 4) 2 99 := ⟨by decide +kernel, rfl⟩
theorem d_A_touchIndex_99 : gD m_A_touchIndex 99 (.iload 4) 2 101 := ⟨by decide +kernel, rfl⟩
theorem d_A_touchIndex_101 : gD m_A_touchIndex 101 (.aload_n 0) 1 102 := ⟨by decide +kernel, rfl⟩
theorem d_A_touchIndex_102 : gD m_A_touchIndex 102 (.getfield 28) 3 105 := ⟨by decide +kernel, rfl⟩
theorem d_A_touchIndex_105 : gD m_A_touchIndex 105 (.getfield 326) 3 108 := ⟨by decide +kernel, rfl⟩
theorem d_A_touchIndex_108 : gD m_A_touchIndex 108 (.getfield 152) 3 111 := ⟨by decide +kernel, rfl⟩
theorem d_A_touchIndex_111 : gD m_A_touchIndex 111 (.if_icmp .ge 33) 3 114 := ⟨by decide +kernel, rfl⟩
theorem d_A_touchIndex_114 : gD m_A_touchIndex 114 (.aload_n 0) 1 115 := ⟨by decide +kernel, rfl⟩
theorem d_A_touchIndex_115 : gD m_A_touchIndex 115 (.getfield 44) 3 118 := ⟨by decide +kernel, rfl⟩
theorem d_A_touchIndex_118 : gD m_A_touchIndex 118 (.iconst (-1)) 1 119 := ⟨by decide +kernel, rfl⟩
theorem d_A_touchIndex_119 : gD m_A_touchIndex 119 (.iconst 0) 1 120 := ⟨by decide +kernel, rfl⟩
theorem d_A_touchIndex_120 : gD m_A_touchIndex 120 (.aload_n 0) 1 121 := ⟨by decide +kernel, rfl⟩
theorem d_A_touchIndex_121 : gD m_A_touchIndex 121 (.getfield 28) 3 124 := ⟨by decide +kernel, rfl⟩
theorem d_A_touchIndex_124 : gD m_A_touchIndex 124 (.getfield 326) 3 127 := ⟨by decide +kernel, rfl⟩
theorem d_A_touchIndex_127 : gD m_A_touchIndex 127 (.getfield 160) 3 130 := ⟨by decide +kernel, rfl⟩
theorem d_A_touchIndex_130 : gD m_A_touchIndex 130 (.iload 4) 2 132 := ⟨by decide +kernel, rfl⟩
theorem d_A_touchIndex_132 : gD m_A_touchIndex 132 .iaload 1 133 := ⟨by decide +kernel, rfl⟩
theorem d_A_touchIndex_133 : gD m_A_touchIndex 133 (.iconst 4) 1 134 := ⟨by decide +kernel, rfl⟩
theorem d_A_touchIndex_134 : gD m_A_touchIndex 134 .idiv 1 135 := ⟨by decide +kernel, rfl⟩
theorem d_A_touchIndex_135 : gD m_A_touchIndex 135 (.invokevirtual 307) 3 138 := ⟨by decide +kernel, rfl⟩
theorem d_A_touchIndex_138 : gD m_A_touchIndex 138 (.iinc 4 1) 3 141 := ⟨by decide +kernel, rfl⟩
theorem d_A_touchIndex_141 : gD m_A_touchIndex 141 (.goto (-42)) 3 144 := ⟨by decide +kernel, rfl⟩
theorem d_A_touchIndex_144 : gD m_A_touchIndex 144 .return_ 1 145 := ⟨by decide +kernel, rfl⟩
theorem d_S_firstLeaf_0 : gD m_S_firstLeaf 0 (.aload_n 0) 1 1 := ⟨by decide +kernel, rfl⟩
theorem d_S_firstLeaf_1 : gD m_S_firstLeaf 1 (.getfield 49) 3 4 := ⟨by decide +kernel, rfl⟩
theorem d_S_firstLeaf_4 : gD m_S_firstLeaf 4 (.iconst 4) 1 5 := ⟨by decide +kernel, rfl⟩
theorem d_S_firstLeaf_5 : gD m_S_firstLeaf 5 .idiv 1 6 := ⟨by decide +kernel, rfl⟩
theorem d_S_firstLeaf_6 : gD m_S_firstLeaf 6 (.aload_n 0) 1 7 := ⟨by decide +kernel, rfl⟩
theorem d_S_firstLeaf_7 : gD m_S_firstLeaf 7 (.getfield 18) 3 10 := ⟨by decide +kernel, rfl⟩
theorem d_S_firstLeaf_10 : gD m_S_firstLeaf 10 (.invokevirtual 94) 3 13 := ⟨by decide +kernel, rfl⟩
theorem d_S_firstLeaf_13 : gD m_S_firstLeaf 13 (.iconst 1) 1 14 := ⟨by decide +kernel, rfl⟩
theorem d_S_firstLeaf_14 : gD m_S_firstLeaf 14 .isub 1 15 := ⟨by decide +kernel, rfl⟩
theorem d_S_firstLeaf_15 : gD m_S_firstLeaf 15 (.invokestatic 98) 3 18 := ⟨by decide +kernel, rfl⟩
theorem d_S_firstLeaf_18 : gD m_S_firstLeaf 18 .ireturn 1 19 := ⟨by decide +kernel, rfl⟩
theorem d_A_nodeAbove_0 : gD m_A_nodeAbove 0 (.iload_n 0) 1 1 := ⟨by decide +kernel, rfl⟩
theorem d_A_nodeAbove_1 : gD m_A_nodeAbove 1 (.istore_n 2) 1 2 := ⟨by decide +kernel, rfl⟩
theorem d_A_nodeAbove_2 : gD m_A_nodeAbove 2 (.iconst 0) 1 3 := ⟨by decide +kernel, rfl⟩
theorem d_A_nodeAbove_3 : gD m_A_nodeAbove 3 (.istore_n 3) 1 4 := ⟨by decide +kernel, rfl⟩
theorem d_A_nodeAbove_4 : gD m_A_nodeAbove 4 (.iload_n 3) 1 5 := ⟨by decide +kernel, rfl⟩
theorem d_A_nodeAbove_5 : gD m_A_nodeAbove 5 (.iload_n 1) 1 6 := ⟨by decide +kernel, rfl⟩
theorem d_A_nodeAbove_6 : gD m_A_nodeAbove 6 (.if_icmp .ge 13) 3 9 := ⟨by decide +kernel, rfl⟩
theorem d_A_nodeAbove_9 : gD m_A_nodeAbove 9 (.iload_n 2) 1 10 := ⟨by decide +kernel, rfl⟩
theorem d_A_nodeAbove_10 : gD m_A_nodeAbove 10 (.iconst 4) 1 11 := ⟨by decide +kernel, rfl⟩
theorem d_A_nodeAbove_11 : gD m_A_nodeAbove 11 .idiv 1 12 := ⟨by decide +kernel, rfl⟩
theorem d_A_nodeAbove_12 : gD m_A_nodeAbove 12 (.istore_n 2) 1 13 := ⟨by decide +kernel, rfl⟩
theorem d_A_nodeAbove_13 : gD m_A_nodeAbove 13 (.iinc 3 1) 3 16 := ⟨by decide +kernel, rfl⟩
theorem d_A_nodeAbove_16 : gD m_A_nodeAbove 16 (.goto (-12)) 3 19 := ⟨by decide +kernel, rfl⟩
theorem d_A_nodeAbove_19 : gD m_A_nodeAbove 19 (.iload_n 2) 1 20 := ⟨by decide +kernel, rfl⟩
theorem d_A_nodeAbove_20 : gD m_A_nodeAbove 20 .ireturn 1 21 := ⟨by decide +kernel, rfl⟩
theorem d_S_sort_0 : gD m_S_sort 0 (.aload_n 0) 1 1 := ⟨by decide +kernel, rfl⟩
theorem d_S_sort_1 : gD m_S_sort 1 (.getfield 12) 3 4 := ⟨by decide +kernel, rfl⟩
theorem d_S_sort_4 : gD m_S_sort 4 (.aload_n 0) 1 5 := ⟨by decide +kernel, rfl⟩
theorem d_S_sort_5 : gD m_S_sort 5 (.getfield 18) 3 8 := ⟨by decide +kernel, rfl⟩
theorem d_S_sort_8 : gD m_S_sort 8 (.aload_n 0) 1 9 := ⟨by decide +kernel, rfl⟩
theorem d_S_sort_9 : gD m_S_sort 9 (.getfield 26) 3 12 := ⟨by decide +kernel, rfl⟩
theorem d_S_sort_12 : gD m_S_sort 12 (.aload_n 0) 1 13 := ⟨by decide +kernel, rfl⟩
theorem d_S_sort_13 : gD m_S_sort 13 (.getfield 33) 3 16 := ⟨by decide +kernel, rfl⟩
theorem d_S_sort_16 : gD m_S_sort 16 (.invokevirtual 90) 3 19 := ⟨by decide +kernel, rfl⟩
theorem d_S_sort_19 : gD m_S_sort 19 .return_ 1 20 := ⟨by decide +kernel, rfl⟩
theorem d_R_sort_0 : gD m_R_sort 0 (.iconst 1) 1 1 := ⟨by decide +kernel, rfl⟩
theorem d_R_sort_1 : gD m_R_sort 1 (.istore 4) 2 3 := ⟨by decide +kernel, rfl⟩
theorem d_R_sort_3 : gD m_R_sort 3 (.iload 4) 2 5 := ⟨by decide +kernel, rfl⟩
theorem d_R_sort_5 : gD m_R_sort 5 (.aload_n 0) 1 6 := ⟨by decide +kernel, rfl⟩
theorem d_R_sort_6 : gD m_R_sort 6 (.getfield 15) 3 9 := ⟨by decide +kernel, rfl⟩
theorem d_R_sort_9 : gD m_R_sort 9 (.if_icmp .ge 78) 3 12 := ⟨by decide +kernel, rfl⟩
theorem d_R_sort_12 : gD m_R_sort 12 (.aload_n 0) 1 13 := ⟨by decide +kernel, rfl⟩
theorem d_R_sort_13 : gD m_R_sort 13 (.getfield 9) 3 16 := ⟨by decide +kernel, rfl⟩
theorem d_R_sort_16 : gD m_R_sort 16 (.iload 4) 2 18 := ⟨by decide +kernel, rfl⟩
theorem d_R_sort_18 : gD m_R_sort 18 .iaload 1 19 := ⟨by decide +kernel, rfl⟩
theorem d_R_sort_19 : gD m_R_sort 19 (.istore 5) 2 21 := ⟨by decide +kernel, rfl⟩
theorem d_R_sort_21 : gD m_R_sort 21 (.iload 4) 2 23 := ⟨by decide +kernel, rfl⟩
theorem d_R_sort_23 : gD m_R_sort 23 (.istore 6) 2 25 := ⟨by decide +kernel, rfl⟩
theorem d_R_sort_25 : gD m_R_sort 25 (.iload 6) 2 27 := ⟨by decide +kernel, rfl⟩
theorem d_R_sort_27 : gD m_R_sort 27 (.ifCond .le 45) 3 30 := ⟨by decide +kernel, rfl⟩
theorem d_R_sort_30 : gD m_R_sort 30 (.aload_n 1) 1 31 := ⟨by decide +kernel, rfl⟩
theorem d_R_sort_31 : gD m_R_sort 31 (.aload_n 0) 1 32 := ⟨by decide +kernel, rfl⟩
theorem d_R_sort_32 : gD m_R_sort 32 (.getfield 9) 3 35 := ⟨by decide +kernel, rfl⟩
theorem d_R_sort_35 : gD m_R_sort 35 (.iload 6) 2 37 := ⟨by decide +kernel, rfl⟩
theorem d_R_sort_37 : gD m_R_sort 37 (.iconst 1) 1 38 := ⟨by decide +kernel, rfl⟩
theorem d_R_sort_38 : gD m_R_sort 38 .isub 1 39 := ⟨by decide +kernel, rfl⟩
theorem d_R_sort_39 : gD m_R_sort 39 .iaload 1 40 := ⟨by decide +kernel, rfl⟩
theorem d_R_sort_40 : gD m_R_sort 40 (.iload 5) 2 42 := ⟨by decide +kernel, rfl⟩
theorem d_R_sort_42 : gD m_R_sort 42 (.iload_n 2) 1 43 := ⟨by decide +kernel, rfl⟩
theorem d_R_sort_43 : gD m_R_sort 43 (.iload_n 3) 1 44 := ⟨by decide +kernel, rfl⟩
theorem d_R_sort_44 : gD m_R_sort 44 (.invokevirtual 19) 3 47 := ⟨by decide +kernel, rfl⟩
theorem d_R_sort_47 : gD m_R_sort 47 (.ifCond .eq 25) 3 50 := ⟨by decide +kernel, rfl⟩
theorem d_R_sort_50 : gD m_R_sort 50 (.aload_n 0) 1 51 := ⟨by decide +kernel, rfl⟩
theorem d_R_sort_51 : gD m_R_sort 51 (.getfield 9) 3 54 := ⟨by decide +kernel, rfl⟩
theorem d_R_sort_54 : gD m_R_sort 54 (.iload 6) 2 56 := ⟨by decide +kernel, rfl⟩
theorem d_R_sort_56 : gD m_R_sort 56 (.aload_n 0) 1 57 := ⟨by decide +kernel, rfl⟩
theorem d_R_sort_57 : gD m_R_sort 57 (.getfield 9) 3 60 := ⟨by decide +kernel, rfl⟩
theorem d_R_sort_60 : gD m_R_sort 60 (.iload 6) 2 62 := ⟨by decide +kernel, rfl⟩
theorem d_R_sort_62 : gD m_R_sort 62 (.iconst 1) 1 63 := ⟨by decide +kernel, rfl⟩
theorem d_R_sort_63 : gD m_R_sort 63 .isub 1 64 := ⟨by decide +kernel, rfl⟩
theorem d_R_sort_64 : gD m_R_sort 64 .iaload 1 65 := ⟨by decide +kernel, rfl⟩
theorem d_R_sort_65 : gD m_R_sort 65 .iastore 1 66 := ⟨by decide +kernel, rfl⟩
theorem d_R_sort_66 : gD m_R_sort 66 (.iinc 6 (-1)) 3 69 := ⟨by decide +kernel, rfl⟩
theorem d_R_sort_69 : gD m_R_sort 69 (.goto (-44)) 3 72 := ⟨by decide +kernel, rfl⟩
theorem d_R_sort_72 : gD m_R_sort 72 (.aload_n 0) 1 73 := ⟨by decide +kernel, rfl⟩
theorem d_R_sort_73 : gD m_R_sort 73 (.getfield 9) 3 76 := ⟨by decide +kernel, rfl⟩
theorem d_R_sort_76 : gD m_R_sort 76 (.iload 6) 2 78 := ⟨by decide +kernel, rfl⟩
theorem d_R_sort_78 : gD m_R_sort 78 (.iload 5) 2 80 := ⟨by decide +kernel, rfl⟩
theorem d_R_sort_80 : gD m_R_sort 80 .iastore 1 81 := ⟨by decide +kernel, rfl⟩
theorem d_R_sort_81 : gD m_R_sort 81 (.iinc 4 1) 3 84 := ⟨by decide +kernel, rfl⟩
theorem d_R_sort_84 : gD m_R_sort 84 (.goto (-81)) 3 87 := ⟨by decide +kernel, rfl⟩
theorem d_R_sort_87 : gD m_R_sort 87 .return_ 1 88 := ⟨by decide +kernel, rfl⟩
theorem d_T_isAfter_0 : gD m_T_isAfter 0 (.aload_n 0) 1 1 := ⟨by decide +kernel, rfl⟩
theorem d_T_isAfter_1 : gD m_T_isAfter 1 (.iload_n 1) 1 2 := ⟨by decide +kernel, rfl⟩
theorem d_T_isAfter_2 : gD m_T_isAfter 2 (.iload_n 2) 1 3 := ⟨by decide +kernel, rfl⟩
theorem d_T_isAfter_3 : gD m_T_isAfter 3 (.iload_n 3) 1 4 := ⟨by decide +kernel, rfl⟩
theorem d_T_isAfter_4 : gD m_T_isAfter 4 (.invokevirtual 51) 3 7 := ⟨by decide +kernel, rfl⟩
theorem d_T_isAfter_7 : gD m_T_isAfter 7 (.istore 5) 2 9 := ⟨by decide +kernel, rfl⟩
theorem d_T_isAfter_9 : gD m_T_isAfter 9 (.iload 5) 2 11 := ⟨by decide +kernel, rfl⟩
theorem d_T_isAfter_11 : gD m_T_isAfter 11 (.ifCond .gt 19) 3 14 := ⟨by decide +kernel, rfl⟩
theorem d_T_isAfter_14 : gD m_T_isAfter 14 (.iload 5) 2 16 := ⟨by decide +kernel, rfl⟩
theorem d_T_isAfter_16 : gD m_T_isAfter 16 (.ifCond .ne 18) 3 19 := ⟨by decide +kernel, rfl⟩
theorem d_T_isAfter_19 : gD m_T_isAfter 19 (.aload_n 0) 1 20 := ⟨by decide +kernel, rfl⟩
theorem d_T_isAfter_20 : gD m_T_isAfter 20 (.iload_n 1) 1 21 := ⟨by decide +kernel, rfl⟩
theorem d_T_isAfter_21 : gD m_T_isAfter 21 (.iload_n 2) 1 22 := ⟨by decide +kernel, rfl⟩
theorem d_T_isAfter_22 : gD m_T_isAfter 22 (.iload 4) 2 24 := ⟨by decide +kernel, rfl⟩
theorem d_T_isAfter_24 : gD m_T_isAfter 24 (.invokevirtual 51) 3 27 := ⟨by decide +kernel, rfl⟩
theorem d_T_isAfter_27 : gD m_T_isAfter 27 (.ifCond .le 7) 3 30 := ⟨by decide +kernel, rfl⟩
theorem d_T_isAfter_30 : gD m_T_isAfter 30 (.iconst 1) 1 31 := ⟨by decide +kernel, rfl⟩
theorem d_T_isAfter_31 : gD m_T_isAfter 31 (.goto 4) 3 34 := ⟨by decide +kernel, rfl⟩
theorem d_T_isAfter_34 : gD m_T_isAfter 34 (.iconst 0) 1 35 := ⟨by decide +kernel, rfl⟩
theorem d_T_isAfter_35 : gD m_T_isAfter 35 .ireturn 1 36 := ⟨by decide +kernel, rfl⟩
theorem d_T_compare_0 : gD m_T_compare 0 (.iload_n 3) 1 1 := ⟨by decide +kernel, rfl⟩
theorem d_T_compare_1 : gD m_T_compare 1 (.iconst (-1)) 1 2 := ⟨by decide +kernel, rfl⟩
theorem d_T_compare_2 : gD m_T_compare 2 (.if_icmp .ne 7) 3 5 := ⟨by decide +kernel, rfl⟩
theorem d_T_compare_5 : gD m_T_compare 5 (.iconst 0) 1 6 := ⟨by decide +kernel, rfl⟩
theorem d_T_compare_6 : gD m_T_compare 6 (.goto 18) 3 9 := ⟨by decide +kernel, rfl⟩
theorem d_T_compare_9 : gD m_T_compare 9 (.aload_n 0) 1 10 := ⟨by decide +kernel, rfl⟩
theorem d_T_compare_10 : gD m_T_compare 10 (.iload_n 1) 1 11 := ⟨by decide +kernel, rfl⟩
theorem d_T_compare_11 : gD m_T_compare 11 (.iload_n 3) 1 12 := ⟨by decide +kernel, rfl⟩
theorem d_T_compare_12 : gD m_T_compare 12 (.invokevirtual 55) 3 15 := ⟨by decide +kernel, rfl⟩
theorem d_T_compare_15 : gD m_T_compare 15 (.aload_n 0) 1 16 := ⟨by decide +kernel, rfl⟩
theorem d_T_compare_16 : gD m_T_compare 16 (.iload_n 2) 1 17 := ⟨by decide +kernel, rfl⟩
theorem d_T_compare_17 : gD m_T_compare 17 (.iload_n 3) 1 18 := ⟨by decide +kernel, rfl⟩
theorem d_T_compare_18 : gD m_T_compare 18 (.invokevirtual 55) 3 21 := ⟨by decide +kernel, rfl⟩
theorem d_T_compare_21 : gD m_T_compare 21 (.invokestatic 58) 3 24 := ⟨by decide +kernel, rfl⟩
theorem d_T_compare_24 : gD m_T_compare 24 .ireturn 1 25 := ⟨by decide +kernel, rfl⟩
theorem d_J_compare_0 : gD m_J_compare 0 (.iload_n 0) 1 1 := ⟨by decide +kernel, rfl⟩
theorem d_J_compare_1 : gD m_J_compare 1 (.iload_n 1) 1 2 := ⟨by decide +kernel, rfl⟩
theorem d_J_compare_2 : gD m_J_compare 2 (.if_icmp .ge 7) 3 5 := ⟨by decide +kernel, rfl⟩
theorem d_J_compare_5 : gD m_J_compare 5 (.iconst (-1)) 1 6 := ⟨by decide +kernel, rfl⟩
theorem d_J_compare_6 : gD m_J_compare 6 (.goto 13) 3 9 := ⟨by decide +kernel, rfl⟩
theorem d_J_compare_9 : gD m_J_compare 9 (.iload_n 0) 1 10 := ⟨by decide +kernel, rfl⟩
theorem d_J_compare_10 : gD m_J_compare 10 (.iload_n 1) 1 11 := ⟨by decide +kernel, rfl⟩
theorem d_J_compare_11 : gD m_J_compare 11 (.if_icmp .ne 7) 3 14 := ⟨by decide +kernel, rfl⟩
theorem d_J_compare_14 : gD m_J_compare 14 (.iconst 0) 1 15 := ⟨by decide +kernel, rfl⟩
theorem d_J_compare_15 : gD m_J_compare 15 (.goto 4) 3 18 := ⟨by decide +kernel, rfl⟩
theorem d_J_compare_18 : gD m_J_compare 18 (.iconst 1) 1 19 := ⟨by decide +kernel, rfl⟩
theorem d_J_compare_19 : gD m_J_compare 19 .ireturn 1 20 := ⟨by decide +kernel, rfl⟩
theorem d_A_findAnswer_0 : gD m_A_findAnswer 0 (.aload_n 0) 1 1 := ⟨by decide +kernel, rfl⟩
theorem d_A_findAnswer_1 : gD m_A_findAnswer 1 (.getfield 74) 3 4 := ⟨by decide +kernel, rfl⟩
theorem d_A_findAnswer_4 : gD m_A_findAnswer 4 (.iconst 0) 1 5 := ⟨by decide +kernel, rfl⟩
theorem d_A_findAnswer_5 : gD m_A_findAnswer 5 (.putfield 152) 3 8 := ⟨by decide +kernel, rfl⟩
theorem d_A_findAnswer_8 : gD m_A_findAnswer 8 (.iconst 0) 1 9 := ⟨by decide +kernel, rfl⟩
theorem d_A_findAnswer_9 : gD m_A_findAnswer 9 (.istore_n 1) 1 10 := ⟨by decide +kernel, rfl⟩
theorem d_A_findAnswer_10 : gD m_A_findAnswer 10 (.iload_n 1) 1 11 := ⟨by decide +kernel, rfl⟩
theorem d_A_findAnswer_11 : gD m_A_findAnswer 11 (.aload_n 0) 1 12 := ⟨by decide +kernel, rfl⟩
theorem d_A_findAnswer_12 : gD m_A_findAnswer 12 (.getfield 12) 3 15 := ⟨by decide +kernel, rfl⟩
theorem d_A_findAnswer_15 : gD m_A_findAnswer 15 (.getfield 274) 3 18 := ⟨by decide +kernel, rfl⟩
theorem d_A_findAnswer_18 : gD m_A_findAnswer 18 (.if_icmp .ge 44) 3 21 := ⟨by decide +kernel, rfl⟩
theorem d_A_findAnswer_21 : gD m_A_findAnswer 21 (.aload_n 0) 1 22 := ⟨by decide +kernel, rfl⟩
theorem d_A_findAnswer_22 : gD m_A_findAnswer 22 (.getfield 12) 3 25 := ⟨by decide +kernel, rfl⟩
theorem d_A_findAnswer_25 : gD m_A_findAnswer 25 (.getfield 277) 3 28 := ⟨by decide +kernel, rfl⟩
theorem d_A_findAnswer_28 : gD m_A_findAnswer 28 (.iload_n 1) 1 29 := ⟨by decide +kernel, rfl⟩
theorem d_A_findAnswer_29 : gD m_A_findAnswer 29 .baload 1 30 := ⟨by decide +kernel, rfl⟩
theorem d_A_findAnswer_30 : gD m_A_findAnswer 30 (.ifCond .eq 26) 3 33 := ⟨by decide +kernel, rfl⟩
theorem d_A_findAnswer_33 : gD m_A_findAnswer 33 (.aload_n 0) 1 34 := ⟨by decide +kernel, rfl⟩
theorem d_A_findAnswer_34 : gD m_A_findAnswer 34 (.getfield 19) 3 37 := ⟨by decide +kernel, rfl⟩
theorem d_A_findAnswer_37 : gD m_A_findAnswer 37 (.aload_n 0) 1 38 := ⟨by decide +kernel, rfl⟩
theorem d_A_findAnswer_38 : gD m_A_findAnswer 38 (.getfield 12) 3 41 := ⟨by decide +kernel, rfl⟩
theorem d_A_findAnswer_41 : gD m_A_findAnswer 41 (.iload_n 1) 1 42 := ⟨by decide +kernel, rfl⟩
theorem d_A_findAnswer_42 : gD m_A_findAnswer 42 (.invokevirtual 329) 3 45 := ⟨by decide +kernel, rfl⟩
theorem d_A_findAnswer_45 : gD m_A_findAnswer 45 (.ifCond .eq 11) 3 48 := ⟨by decide +kernel, rfl⟩
theorem d_A_findAnswer_48 : gD m_A_findAnswer 48 (.aload_n 0) 1 49 := ⟨by decide +kernel, rfl⟩
theorem d_A_findAnswer_49 : gD m_A_findAnswer 49 (.getfield 74) 3 52 := ⟨by decide +kernel, rfl⟩
theorem d_A_findAnswer_52 : gD m_A_findAnswer 52 (.iload_n 1) 1 53 := ⟨by decide +kernel, rfl⟩
theorem d_A_findAnswer_53 : gD m_A_findAnswer 53 (.invokevirtual 333) 3 56 := ⟨by decide +kernel, rfl⟩
theorem d_A_findAnswer_56 : gD m_A_findAnswer 56 (.iinc 1 1) 3 59 := ⟨by decide +kernel, rfl⟩
theorem d_A_findAnswer_59 : gD m_A_findAnswer 59 (.goto (-49)) 3 62 := ⟨by decide +kernel, rfl⟩
theorem d_A_findAnswer_62 : gD m_A_findAnswer 62 (.aload_n 0) 1 63 := ⟨by decide +kernel, rfl⟩
theorem d_A_findAnswer_63 : gD m_A_findAnswer 63 (.getfield 74) 3 66 := ⟨by decide +kernel, rfl⟩
theorem d_A_findAnswer_66 : gD m_A_findAnswer 66 (.aload_n 0) 1 67 := ⟨by decide +kernel, rfl⟩
theorem d_A_findAnswer_67 : gD m_A_findAnswer 67 (.getfield 12) 3 70 := ⟨by decide +kernel, rfl⟩
theorem d_A_findAnswer_70 : gD m_A_findAnswer 70 (.aload_n 0) 1 71 := ⟨by decide +kernel, rfl⟩
theorem d_A_findAnswer_71 : gD m_A_findAnswer 71 (.getfield 78) 3 74 := ⟨by decide +kernel, rfl⟩
theorem d_A_findAnswer_74 : gD m_A_findAnswer 74 (.iconst (-1)) 1 75 := ⟨by decide +kernel, rfl⟩
theorem d_A_findAnswer_75 : gD m_A_findAnswer 75 (.invokevirtual 336) 3 78 := ⟨by decide +kernel, rfl⟩
theorem d_A_findAnswer_78 : gD m_A_findAnswer 78 (.aload_n 0) 1 79 := ⟨by decide +kernel, rfl⟩
theorem d_A_findAnswer_79 : gD m_A_findAnswer 79 (.getfield 74) 3 82 := ⟨by decide +kernel, rfl⟩
theorem d_A_findAnswer_82 : gD m_A_findAnswer 82 (.aload_n 0) 1 83 := ⟨by decide +kernel, rfl⟩
theorem d_A_findAnswer_83 : gD m_A_findAnswer 83 (.getfield 74) 3 86 := ⟨by decide +kernel, rfl⟩
theorem d_A_findAnswer_86 : gD m_A_findAnswer 86 (.getfield 152) 3 89 := ⟨by decide +kernel, rfl⟩
theorem d_A_findAnswer_89 : gD m_A_findAnswer 89 (.aload_n 0) 1 90 := ⟨by decide +kernel, rfl⟩
theorem d_A_findAnswer_90 : gD m_A_findAnswer 90 (.getfield 82) 3 93 := ⟨by decide +kernel, rfl⟩
theorem d_A_findAnswer_93 : gD m_A_findAnswer 93 (.invokestatic 339) 3 96 := ⟨by decide +kernel, rfl⟩
theorem d_A_findAnswer_96 : gD m_A_findAnswer 96 (.putfield 152) 3 99 := ⟨by decide +kernel, rfl⟩
theorem d_A_findAnswer_99 : gD m_A_findAnswer 99 .return_ 1 100 := ⟨by decide +kernel, rfl⟩
theorem d_C_fitRow_0 : gD m_C_fitRow 0 (.iconst 0) 1 1 := ⟨by decide +kernel, rfl⟩
theorem d_C_fitRow_1 : gD m_C_fitRow 1 (.istore_n 3) 1 2 := ⟨by decide +kernel, rfl⟩
theorem d_C_fitRow_2 : gD m_C_fitRow 2 (.iload_n 3) 1 3 := ⟨by decide +kernel, rfl⟩
theorem d_C_fitRow_3 : gD m_C_fitRow 3 (.iconst 3) 1 4 := ⟨by decide +kernel, rfl⟩
theorem d_C_fitRow_4 : gD m_C_fitRow 4 (.if_icmp .ge 25) 3 7 := ⟨by decide +kernel, rfl⟩
theorem d_C_fitRow_7 : gD m_C_fitRow 7 (.aload_n 0) 1 8 := ⟨by decide +kernel, rfl⟩
theorem d_C_fitRow_8 : gD m_C_fitRow 8 (.iload_n 3) 1 9 := ⟨by decide +kernel, rfl⟩
theorem d_C_fitRow_9 : gD m_C_fitRow 9 (.aload_n 1) 1 10 := ⟨by decide +kernel, rfl⟩
theorem d_C_fitRow_10 : gD m_C_fitRow 10 (.iload_n 2) 1 11 := ⟨by decide +kernel, rfl⟩
theorem d_C_fitRow_11 : gD m_C_fitRow 11 (.iload_n 3) 1 12 := ⟨by decide +kernel, rfl⟩
theorem d_C_fitRow_12 : gD m_C_fitRow 12 (.invokevirtual 25) 3 15 := ⟨by decide +kernel, rfl⟩
theorem d_C_fitRow_15 : gD m_C_fitRow 15 (.invokevirtual 31) 3 18 := ⟨by decide +kernel, rfl⟩
theorem d_C_fitRow_18 : gD m_C_fitRow 18 (.ifCond .ne 5) 3 21 := ⟨by decide +kernel, rfl⟩
theorem d_C_fitRow_21 : gD m_C_fitRow 21 (.iconst 0) 1 22 := ⟨by decide +kernel, rfl⟩
theorem d_C_fitRow_22 : gD m_C_fitRow 22 .ireturn 1 23 := ⟨by decide +kernel, rfl⟩
theorem d_C_fitRow_23 : gD m_C_fitRow 23 (.iinc 3 1) 3 26 := ⟨by decide +kernel, rfl⟩
theorem d_C_fitRow_26 : gD m_C_fitRow 26 (.goto (-24)) 3 29 := ⟨by decide +kernel, rfl⟩
theorem d_C_fitRow_29 : gD m_C_fitRow 29 (.iconst 1) 1 30 := ⟨by decide +kernel, rfl⟩
theorem d_C_fitRow_30 : gD m_C_fitRow 30 .ireturn 1 31 := ⟨by decide +kernel, rfl⟩
theorem d_D_noteQuery_0 : gD m_D_noteQuery 0 (.aload_n 0) 1 1 := ⟨by decide +kernel, rfl⟩
theorem d_D_noteQuery_1 : gD m_D_noteQuery 1 (.aload_n 1) 1 2 := ⟨by decide +kernel, rfl⟩
theorem d_D_noteQuery_2 : gD m_D_noteQuery 2 (.invokevirtual 16) 3 5 := ⟨by decide +kernel, rfl⟩
theorem d_D_noteQuery_5 : gD m_D_noteQuery 5 (.invokevirtual 22) 3 8 := ⟨by decide +kernel, rfl⟩
theorem d_D_noteQuery_8 : gD m_D_noteQuery 8 (.istore_n 2) 1 9 := ⟨by decide +kernel, rfl⟩
theorem d_D_noteQuery_9 : gD m_D_noteQuery 9 (.iload_n 2) 1 10 := ⟨by decide +kernel, rfl⟩
theorem d_D_noteQuery_10 : gD m_D_noteQuery 10 (.bipush 8) 2 12 := ⟨by decide +kernel, rfl⟩
theorem d_D_noteQuery_12 : gD m_D_noteQuery 12 (.if_icmp .ne 4) 3 15 := ⟨by decide +kernel, rfl⟩
theorem d_D_noteQuery_15 : gD m_D_noteQuery 15 .return_ 1 16 := ⟨by decide +kernel, rfl⟩
theorem d_D_noteQuery_16 : gD m_D_noteQuery 16 (.iload_n 2) 1 17 := ⟨by decide +kernel, rfl⟩
theorem d_D_noteQuery_17 : gD m_D_noteQuery 17 (.aload_n 0) 1 18 := ⟨by decide +kernel, rfl⟩
theorem d_D_noteQuery_18 : gD m_D_noteQuery 18 (.getfield 26) 3 21 := ⟨by decide +kernel, rfl⟩
theorem d_D_noteQuery_21 : gD m_D_noteQuery 21 (.if_icmp .ne 13) 3 24 := ⟨by decide +kernel, rfl⟩
theorem d_D_noteQuery_24 : gD m_D_noteQuery 24 (.aload_n 0) 1 25 := ⟨by decide +kernel, rfl⟩
theorem d_D_noteQuery_25 : gD m_D_noteQuery 25 .dup 1 26 := ⟨by decide +kernel, rfl⟩
theorem d_D_noteQuery_26 : gD m_D_noteQuery 26 (.getfield 26) 3 29 := ⟨by decide +kernel, rfl⟩
theorem d_D_noteQuery_29 : gD m_D_noteQuery 29 (.iconst 1) 1 30 := ⟨by decide +kernel, rfl⟩
theorem d_D_noteQuery_30 : gD m_D_noteQuery 30 .iadd 1 31 := ⟨by decide +kernel, rfl⟩
theorem d_D_noteQuery_31 : gD m_D_noteQuery 31 (.putfield 26) 3 34 := ⟨by decide +kernel, rfl⟩
theorem d_D_noteQuery_34 : gD m_D_noteQuery 34 (.aload_n 0) 1 35 := ⟨by decide +kernel, rfl⟩
theorem d_D_noteQuery_35 : gD m_D_noteQuery 35 (.getfield 11) 3 38 := ⟨by decide +kernel, rfl⟩
theorem d_D_noteQuery_38 : gD m_D_noteQuery 38 (.iload_n 2) 1 39 := ⟨by decide +kernel, rfl⟩
theorem d_D_noteQuery_39 : gD m_D_noteQuery 39 .aaload 1 40 := ⟨by decide +kernel, rfl⟩
theorem d_D_noteQuery_40 : gD m_D_noteQuery 40 .dup 1 41 := ⟨by decide +kernel, rfl⟩
theorem d_D_noteQuery_41 : gD m_D_noteQuery 41 (.getfield 30) 3 44 := ⟨by decide +kernel, rfl⟩
theorem d_D_noteQuery_44 : gD m_D_noteQuery 44 (.bipush 16) 2 46 := ⟨by decide +kernel, rfl⟩
theorem d_D_noteQuery_46 : gD m_D_noteQuery 46 .iadd 1 47 := ⟨by decide +kernel, rfl⟩
theorem d_D_noteQuery_47 : gD m_D_noteQuery 47 (.putfield 30) 3 50 := ⟨by decide +kernel, rfl⟩
theorem d_D_noteQuery_50 : gD m_D_noteQuery 50 (.aload_n 0) 1 51 := ⟨by decide +kernel, rfl⟩
theorem d_D_noteQuery_51 : gD m_D_noteQuery 51 (.getfield 11) 3 54 := ⟨by decide +kernel, rfl⟩
theorem d_D_noteQuery_54 : gD m_D_noteQuery 54 (.iload_n 2) 1 55 := ⟨by decide +kernel, rfl⟩
theorem d_D_noteQuery_55 : gD m_D_noteQuery 55 .aaload 1 56 := ⟨by decide +kernel, rfl⟩
theorem d_D_noteQuery_56 : gD m_D_noteQuery 56 (.getfield 33) 3 59 := ⟨by decide +kernel, rfl⟩
theorem d_D_noteQuery_59 : gD m_D_noteQuery 59 (.aload_n 1) 1 60 := ⟨by decide +kernel, rfl⟩
theorem d_D_noteQuery_60 : gD m_D_noteQuery 60 (.invokevirtual 37) 3 63 := ⟨by decide +kernel, rfl⟩
theorem d_D_noteQuery_63 : gD m_D_noteQuery 63 .return_ 1 64 := ⟨by decide +kernel, rfl⟩
theorem d_C_kindsCode_0 : gD m_C_kindsCode 0 (.iconst 0) 1 1 := ⟨by decide +kernel, rfl⟩
theorem d_C_kindsCode_1 : gD m_C_kindsCode 1 (.istore_n 1) 1 2 := ⟨by decide +kernel, rfl⟩
theorem d_C_kindsCode_2 : gD m_C_kindsCode 2 (.iconst 2) 1 3 := ⟨by decide +kernel, rfl⟩
theorem d_C_kindsCode_3 : gD m_C_kindsCode 3 (.istore_n 2) 1 4 := ⟨by decide +kernel, rfl⟩
theorem d_C_kindsCode_4 : gD m_C_kindsCode 4 (.iload_n 2) 1 5 := ⟨by decide +kernel, rfl⟩
theorem d_C_kindsCode_5 : gD m_C_kindsCode 5 (.ifCond .lt 20) 3 8 := ⟨by decide +kernel, rfl⟩
theorem d_C_kindsCode_8 : gD m_C_kindsCode 8 (.iload_n 1) 1 9 := ⟨by decide +kernel, rfl⟩
theorem d_C_kindsCode_9 : gD m_C_kindsCode 9 (.iconst 3) 1 10 := ⟨by decide +kernel, rfl⟩
theorem d_C_kindsCode_10 : gD m_C_kindsCode 10 .imul 1 11 := ⟨by decide +kernel, rfl⟩
theorem d_C_kindsCode_11 : gD m_C_kindsCode 11 (.aload_n 0) 1 12 := ⟨by decide +kernel, rfl⟩
theorem d_C_kindsCode_12 : gD m_C_kindsCode 12 (.getfield 9) 3 15 := ⟨by decide +kernel, rfl⟩
theorem d_C_kindsCode_15 : gD m_C_kindsCode 15 (.iload_n 2) 1 16 := ⟨by decide +kernel, rfl⟩
theorem d_C_kindsCode_16 : gD m_C_kindsCode 16 .iaload 1 17 := ⟨by decide +kernel, rfl⟩
theorem d_C_kindsCode_17 : gD m_C_kindsCode 17 .iadd 1 18 := ⟨by decide +kernel, rfl⟩
theorem d_C_kindsCode_18 : gD m_C_kindsCode 18 (.istore_n 1) 1 19 := ⟨by decide +kernel, rfl⟩
theorem d_C_kindsCode_19 : gD m_C_kindsCode 19 (.iinc 2 (-1)) 3 22 := ⟨by decide +kernel, rfl⟩
theorem d_C_kindsCode_22 : gD m_C_kindsCode 22 (.goto (-18)) 3 25 := ⟨by decide +kernel, rfl⟩
theorem d_C_kindsCode_25 : gD m_C_kindsCode 25 (.iload_n 1) 1 26 := ⟨by decide +kernel, rfl⟩
theorem d_C_kindsCode_26 : gD m_C_kindsCode 26 .ireturn 1 27 := ⟨by decide +kernel, rfl⟩
theorem d_D_placeOf_0 : gD m_D_placeOf 0 (.iconst 0) 1 1 := ⟨by decide +kernel, rfl⟩
theorem d_D_placeOf_1 : gD m_D_placeOf 1 (.istore_n 2) 1 2 := ⟨by decide +kernel, rfl⟩
theorem d_D_placeOf_2 : gD m_D_placeOf 2 (.iload_n 2) 1 3 := ⟨by decide +kernel, rfl⟩
theorem d_D_placeOf_3 : gD m_D_placeOf 3 (.aload_n 0) 1 4 := ⟨by decide +kernel, rfl⟩
theorem d_D_placeOf_4 : gD m_D_placeOf 4 (.getfield 26) 3 7 := ⟨by decide +kernel, rfl⟩
theorem d_D_placeOf_7 : gD m_D_placeOf 7 (.if_icmp .ge 27) 3 10 := ⟨by decide +kernel, rfl⟩
theorem d_D_placeOf_10 : gD m_D_placeOf 10 (.aload_n 0) 1 11 := ⟨by decide +kernel, rfl⟩
theorem d_D_placeOf_11 : gD m_D_placeOf 11 (.getfield 11) 3 14 := ⟨by decide +kernel, rfl⟩
theorem d_D_placeOf_14 : gD m_D_placeOf 14 (.iload_n 2) 1 15 := ⟨by decide +kernel, rfl⟩
theorem d_D_placeOf_15 : gD m_D_placeOf 15 .aaload 1 16 := ⟨by decide +kernel, rfl⟩
theorem d_D_placeOf_16 : gD m_D_placeOf 16 (.getfield 33) 3 19 := ⟨by decide +kernel, rfl⟩
theorem d_D_placeOf_19 : gD m_D_placeOf 19 (.invokevirtual 16) 3 22 := ⟨by decide +kernel, rfl⟩
theorem d_D_placeOf_22 : gD m_D_placeOf 22 (.iload_n 1) 1 23 := ⟨by decide +kernel, rfl⟩
theorem d_D_placeOf_23 : gD m_D_placeOf 23 (.if_icmp .ne 5) 3 26 := ⟨by decide +kernel, rfl⟩
theorem d_D_placeOf_26 : gD m_D_placeOf 26 (.iload_n 2) 1 27 := ⟨by decide +kernel, rfl⟩
theorem d_D_placeOf_27 : gD m_D_placeOf 27 .ireturn 1 28 := ⟨by decide +kernel, rfl⟩
theorem d_D_placeOf_28 : gD m_D_placeOf 28 (.iinc 2 1) 3 31 := ⟨by decide +kernel, rfl⟩
theorem d_D_placeOf_31 : gD m_D_placeOf 31 (.goto (-29)) 3 34 := ⟨by decide +kernel, rfl⟩
theorem d_D_placeOf_34 : gD m_D_placeOf 34 (.aload_n 0) 1 35 := ⟨by decide +kernel, rfl⟩
theorem d_D_placeOf_35 : gD m_D_placeOf 35 (.getfield 26) 3 38 := ⟨by decide +kernel, rfl⟩
theorem d_D_placeOf_38 : gD m_D_placeOf 38 .ireturn 1 39 := ⟨by decide +kernel, rfl⟩
theorem d_C_copy_0 : gD m_C_copy 0 (.iconst 0) 1 1 := ⟨by decide +kernel, rfl⟩
theorem d_C_copy_1 : gD m_C_copy 1 (.istore_n 2) 1 2 := ⟨by decide +kernel, rfl⟩
theorem d_C_copy_2 : gD m_C_copy 2 (.iload_n 2) 1 3 := ⟨by decide +kernel, rfl⟩
theorem d_C_copy_3 : gD m_C_copy 3 (.iconst 3) 1 4 := ⟨by decide +kernel, rfl⟩
theorem d_C_copy_4 : gD m_C_copy 4 (.if_icmp .ge 32) 3 7 := ⟨by decide +kernel, rfl⟩
theorem d_C_copy_7 : gD m_C_copy 7 (.aload_n 0) 1 8 := ⟨by decide +kernel, rfl⟩
theorem d_C_copy_8 : gD m_C_copy 8 (.iload_n 2) 1 9 := ⟨by decide +kernel, rfl⟩
theorem d_C_copy_9 : gD m_C_copy 9 (.aload_n 1) 1 10 := ⟨by decide +kernel, rfl⟩
theorem d_C_copy_10 : gD m_C_copy 10 (.getfield 9) 3 13 := ⟨by decide +kernel, rfl⟩
theorem d_C_copy_13 : gD m_C_copy 13 (.iload_n 2) 1 14 := ⟨by decide +kernel, rfl⟩
theorem d_C_copy_14 : gD m_C_copy 14 .iaload 1 15 := ⟨by decide +kernel, rfl⟩
theorem d_C_copy_15 : gD m_C_copy 15 (.aload_n 1) 1 16 := ⟨by decide +kernel, rfl⟩
theorem d_C_copy_16 : gD m_C_copy 16 (.getfield 15) 3 19 := ⟨by decide +kernel, rfl⟩
theorem d_C_copy_19 : gD m_C_copy 19 (.iload_n 2) 1 20 := ⟨by decide +kernel, rfl⟩
theorem d_C_copy_20 : gD m_C_copy 20 .iaload 1 21 := ⟨by decide +kernel, rfl⟩
theorem d_C_copy_21 : gD m_C_copy 21 (.aload_n 1) 1 22 := ⟨by decide +kernel, rfl⟩
theorem d_C_copy_22 : gD m_C_copy 22 (.getfield 18) 3 25 := ⟨by decide +kernel, rfl⟩
theorem d_C_copy_25 : gD m_C_copy 25 (.iload_n 2) 1 26 := ⟨by decide +kernel, rfl⟩
theorem d_C_copy_26 : gD m_C_copy 26 .iaload 1 27 := ⟨by decide +kernel, rfl⟩
theorem d_C_copy_27 : gD m_C_copy 27 (.invokevirtual 21) 3 30 := ⟨by decide +kernel, rfl⟩
theorem d_C_copy_30 : gD m_C_copy 30 (.iinc 2 1) 3 33 := ⟨by decide +kernel, rfl⟩
theorem d_C_copy_33 : gD m_C_copy 33 (.goto (-31)) 3 36 := ⟨by decide +kernel, rfl⟩
theorem d_C_copy_36 : gD m_C_copy 36 .return_ 1 37 := ⟨by decide +kernel, rfl⟩
theorem d_C_put_0 : gD m_C_put 0 (.aload_n 0) 1 1 := ⟨by decide +kernel, rfl⟩
theorem d_C_put_1 : gD m_C_put 1 (.getfield 9) 3 4 := ⟨by decide +kernel, rfl⟩
theorem d_C_put_4 : gD m_C_put 4 (.iload_n 1) 1 5 := ⟨by decide +kernel, rfl⟩
theorem d_C_put_5 : gD m_C_put 5 (.iload_n 2) 1 6 := ⟨by decide +kernel, rfl⟩
theorem d_C_put_6 : gD m_C_put 6 .iastore 1 7 := ⟨by decide +kernel, rfl⟩
theorem d_C_put_7 : gD m_C_put 7 (.aload_n 0) 1 8 := ⟨by decide +kernel, rfl⟩
theorem d_C_put_8 : gD m_C_put 8 (.getfield 15) 3 11 := ⟨by decide +kernel, rfl⟩
theorem d_C_put_11 : gD m_C_put 11 (.iload_n 1) 1 12 := ⟨by decide +kernel, rfl⟩
theorem d_C_put_12 : gD m_C_put 12 (.iload_n 3) 1 13 := ⟨by decide +kernel, rfl⟩
theorem d_C_put_13 : gD m_C_put 13 .iastore 1 14 := ⟨by decide +kernel, rfl⟩
theorem d_C_put_14 : gD m_C_put 14 (.aload_n 0) 1 15 := ⟨by decide +kernel, rfl⟩
theorem d_C_put_15 : gD m_C_put 15 (.getfield 18) 3 18 := ⟨by decide +kernel, rfl⟩
theorem d_C_put_18 : gD m_C_put 18 (.iload_n 1) 1 19 := ⟨by decide +kernel, rfl⟩
theorem d_C_put_19 : gD m_C_put 19 (.iload_n 2) 1 20 := ⟨by decide +kernel, rfl⟩
theorem d_C_put_20 : gD m_C_put 20 (.iconst 1) 1 21 := ⟨by decide +kernel, rfl⟩
theorem d_C_put_21 : gD m_C_put 21 (.if_icmp .ne 7) 3 24 := ⟨by decide +kernel, rfl⟩
theorem d_C_put_24 : gD m_C_put 24 (.iload_n 3) 1 25 := ⟨by decide +kernel, rfl⟩
theorem d_C_put_25 : gD m_C_put 25 (.goto 5) 3 28 := ⟨by decide +kernel, rfl⟩
theorem d_C_put_28 : gD m_C_put 28 (.iload 4) 2 30 := ⟨by decide +kernel, rfl⟩
theorem d_C_put_30 : gD m_C_put 30 .iastore 1 31 := ⟨by decide +kernel, rfl⟩
theorem d_C_put_31 : gD m_C_put 31 .return_ 1 32 := ⟨by decide +kernel, rfl⟩
theorem d_A_shapes_0 : gD m_A_shapes 0 (.aload_n 0) 1 1 := ⟨by decide +kernel, rfl⟩
theorem d_A_shapes_1 : gD m_A_shapes 1 (.getfield 51) 3 4 := ⟨by decide +kernel, rfl⟩
theorem d_A_shapes_4 : gD m_A_shapes 4 (.getfield 206) 3 7 := ⟨by decide +kernel, rfl⟩
theorem d_A_shapes_7 : gD m_A_shapes 7 .ireturn 1 8 := ⟨by decide +kernel, rfl⟩
theorem d_A_changes_0 : gD m_A_changes 0 (.aload_n 0) 1 1 := ⟨by decide +kernel, rfl⟩
theorem d_A_changes_1 : gD m_A_changes 1 (.getfield 51) 3 4 := ⟨by decide +kernel, rfl⟩
theorem d_A_changes_4 : gD m_A_changes 4 (.getfield 233) 3 7 := ⟨by decide +kernel, rfl⟩
theorem d_A_changes_7 : gD m_A_changes 7 .ireturn 1 8 := ⟨by decide +kernel, rfl⟩
theorem d_A_period_0 : gD m_A_period 0 (.aload_n 0) 1 1 := ⟨by decide +kernel, rfl⟩
theorem d_A_period_1 : gD m_A_period 1 (.getfield 51) 3 4 := ⟨by decide +kernel, rfl⟩
theorem d_A_period_4 : gD m_A_period 4 (.invokevirtual 236) 3 7 := ⟨by decide +kernel, rfl⟩
theorem d_A_period_7 : gD m_A_period 7 (.aload_n 0) 1 8 := ⟨by decide +kernel, rfl⟩
theorem d_A_period_8 : gD m_A_period 8 (.getfield 51) 3 11 := ⟨by decide +kernel, rfl⟩
theorem d_A_period_11 : gD m_A_period 11 (.getfield 206) 3 14 := ⟨by decide +kernel, rfl⟩
theorem d_A_period_14 : gD m_A_period 14 .ireturn 1 15 := ⟨by decide +kernel, rfl⟩
theorem d_D_fade_0 : gD m_D_fade 0 (.aload_n 0) 1 1 := ⟨by decide +kernel, rfl⟩
theorem d_D_fade_1 : gD m_D_fade 1 (.aload_n 0) 1 2 := ⟨by decide +kernel, rfl⟩
theorem d_D_fade_2 : gD m_D_fade 2 (.getfield 41) 3 5 := ⟨by decide +kernel, rfl⟩
theorem d_D_fade_5 : gD m_D_fade 5 (.invokestatic 44) 3 8 := ⟨by decide +kernel, rfl⟩
theorem d_D_fade_8 : gD m_D_fade 8 (.putfield 41) 3 11 := ⟨by decide +kernel, rfl⟩
theorem d_D_fade_11 : gD m_D_fade 11 (.iconst 0) 1 12 := ⟨by decide +kernel, rfl⟩
theorem d_D_fade_12 : gD m_D_fade 12 (.istore_n 1) 1 13 := ⟨by decide +kernel, rfl⟩
theorem d_D_fade_13 : gD m_D_fade 13 (.iconst 0) 1 14 := ⟨by decide +kernel, rfl⟩
theorem d_D_fade_14 : gD m_D_fade 14 (.istore_n 2) 1 15 := ⟨by decide +kernel, rfl⟩
theorem d_D_fade_15 : gD m_D_fade 15 (.iload_n 2) 1 16 := ⟨by decide +kernel, rfl⟩
theorem d_D_fade_16 : gD m_D_fade 16 (.aload_n 0) 1 17 := ⟨by decide +kernel, rfl⟩
theorem d_D_fade_17 : gD m_D_fade 17 (.getfield 26) 3 20 := ⟨by decide +kernel, rfl⟩
theorem d_D_fade_20 : gD m_D_fade 20 (.if_icmp .ge 56) 3 23 := ⟨by decide +kernel, rfl⟩
theorem d_D_fade_23 : gD m_D_fade 23 (.aload_n 0) 1 24 := ⟨by decide +kernel, rfl⟩
theorem d_D_fade_24 : gD m_D_fade 24 (.getfield 11) 3 27 := ⟨by decide +kernel, rfl⟩
theorem d_D_fade_27 : gD m_D_fade 27 (.iload_n 2) 1 28 := ⟨by decide +kernel, rfl⟩
theorem d_D_fade_28 : gD m_D_fade 28 .aaload 1 29 := ⟨by decide +kernel, rfl⟩
theorem d_D_fade_29 : gD m_D_fade 29 (.astore_n 3) 1 30 := ⟨by decide +kernel, rfl⟩
theorem d_D_fade_30 : gD m_D_fade 30 (.aload_n 3) 1 31 := ⟨by decide +kernel, rfl⟩
theorem d_D_fade_31 : gD m_D_fade 31 (.aload_n 3) 1 32 := ⟨by decide +kernel, rfl⟩
theorem d_D_fade_32 : gD m_D_fade 32 (.getfield 30) 3 35 := ⟨by decide +kernel, rfl⟩
theorem d_D_fade_35 : gD m_D_fade 35 (.invokestatic 44) 3 38 := ⟨by decide +kernel, rfl⟩
theorem d_D_fade_38 : gD m_D_fade 38 (.putfield 30) 3 41 := ⟨by decide +kernel, rfl⟩
theorem d_D_fade_41 : gD m_D_fade 41 (.aload_n 3) 1 42 := ⟨by decide +kernel, rfl⟩
theorem d_D_fade_42 : gD m_D_fade 42 (.getfield 30) 3 45 := ⟨by decide +kernel, rfl⟩
theorem d_D_fade_45 : gD m_D_fade 45 (.ifCond .le 25) 3 48 := ⟨by decide +kernel, rfl⟩
theorem d_D_fade_48 : gD m_D_fade 48 (.aload_n 0) 1 49 := ⟨by decide +kernel, rfl⟩
theorem d_D_fade_49 : gD m_D_fade 49 (.getfield 11) 3 52 := ⟨by decide +kernel, rfl⟩
theorem d_D_fade_52 : gD m_D_fade 52 (.iload_n 2) 1 53 := ⟨by decide +kernel, rfl⟩
theorem d_D_fade_53 : gD m_D_fade 53 (.aload_n 0) 1 54 := ⟨by decide +kernel, rfl⟩
theorem d_D_fade_54 : gD m_D_fade 54 (.getfield 11) 3 57 := ⟨by decide +kernel, rfl⟩
theorem d_D_fade_57 : gD m_D_fade 57 (.iload_n 1) 1 58 := ⟨by decide +kernel, rfl⟩
theorem d_D_fade_58 : gD m_D_fade 58 .aaload 1 59 := ⟨by decide +kernel, rfl⟩
theorem d_D_fade_59 : gD m_D_fade 59 .aastore 1 60 := ⟨by decide +kernel, rfl⟩
theorem d_D_fade_60 : gD m_D_fade 60 (.aload_n 0) 1 61 := ⟨by decide +kernel, rfl⟩
theorem d_D_fade_61 : gD m_D_fade 61 (.getfield 11) 3 64 := ⟨by decide +kernel, rfl⟩
theorem d_D_fade_64 : gD m_D_fade 64 (.iload_n 1) 1 65 := ⟨by decide +kernel, rfl⟩
theorem d_D_fade_65 : gD m_D_fade 65 (.aload_n 3) 1 66 := ⟨by decide +kernel, rfl⟩
theorem d_D_fade_66 : gD m_D_fade 66 .aastore 1 67 := ⟨by decide +kernel, rfl⟩
theorem d_D_fade_67 : gD m_D_fade 67 (.iinc 1 1) 3 70 := ⟨by decide +kernel, rfl⟩
theorem d_D_fade_70 : gD m_D_fade 70 (.iinc 2 1) 3 73 := ⟨by decide +kernel, rfl⟩
theorem d_D_fade_73 : gD m_D_fade 73 (.goto (-58)) 3 76 := ⟨by decide +kernel, rfl⟩
theorem d_D_fade_76 : gD m_D_fade 76 (.aload_n 0) 1 77 := ⟨by decide +kernel, rfl⟩
theorem d_D_fade_77 : gD m_D_fade 77 (.iload_n 1) 1 78 := ⟨by decide +kernel, rfl⟩
theorem d_D_fade_78 : gD m_D_fade 78 (.putfield 26) 3 81 := ⟨by decide +kernel, rfl⟩
theorem d_D_fade_81 : gD m_D_fade 81 .return_ 1 82 := ⟨by decide +kernel, rfl⟩
theorem d_D_threeQuarters_0 : gD m_D_threeQuarters 0 (.iload_n 0) 1 1 := ⟨by decide +kernel, rfl⟩
theorem d_D_threeQuarters_1 : gD m_D_threeQuarters 1 (.iconst 3) 1 2 := ⟨by decide +kernel, rfl⟩
theorem d_D_threeQuarters_2 : gD m_D_threeQuarters 2 .imul 1 3 := ⟨by decide +kernel, rfl⟩
theorem d_D_threeQuarters_3 : gD m_D_threeQuarters 3 (.iconst 4) 1 4 := ⟨by decide +kernel, rfl⟩
theorem d_D_threeQuarters_4 : gD m_D_threeQuarters 4 .idiv 1 5 := ⟨by decide +kernel, rfl⟩
theorem d_D_threeQuarters_5 : gD m_D_threeQuarters 5 .ireturn 1 6 := ⟨by decide +kernel, rfl⟩
theorem d_A_choose_0 : gD m_A_choose 0 (.aload_n 0) 1 1 := ⟨by decide +kernel, rfl⟩
theorem d_A_choose_1 : gD m_A_choose 1 (.getfield 60) 3 4 := ⟨by decide +kernel, rfl⟩
theorem d_A_choose_4 : gD m_A_choose 4 (.invokevirtual 241) 3 7 := ⟨by decide +kernel, rfl⟩
theorem d_A_choose_7 : gD m_A_choose 7 (.aload_n 0) 1 8 := ⟨by decide +kernel, rfl⟩
theorem d_A_choose_8 : gD m_A_choose 8 (.getfield 60) 3 11 := ⟨by decide +kernel, rfl⟩
theorem d_A_choose_11 : gD m_A_choose 11 (.aload_n 0) 1 12 := ⟨by decide +kernel, rfl⟩
theorem d_A_choose_12 : gD m_A_choose 12 (.getfield 85) 3 15 := ⟨by decide +kernel, rfl⟩
theorem d_A_choose_15 : gD m_A_choose 15 (.invokevirtual 243) 3 18 := ⟨by decide +kernel, rfl⟩
theorem d_A_choose_18 : gD m_A_choose 18 .ireturn 1 19 := ⟨by decide +kernel, rfl⟩
theorem d_V_measure_0 : gD m_V_measure 0 (.iconst 0) 1 1 := ⟨by decide +kernel, rfl⟩
theorem d_V_measure_1 : gD m_V_measure 1 (.istore_n 1) 1 2 := ⟨by decide +kernel, rfl⟩
theorem d_V_measure_2 : gD m_V_measure 2 (.iload_n 1) 1 3 := ⟨by decide +kernel, rfl⟩
theorem d_V_measure_3 : gD m_V_measure 3 (.aload_n 0) 1 4 := ⟨by decide +kernel, rfl⟩
theorem d_V_measure_4 : gD m_V_measure 4 (.getfield 19) 3 7 := ⟨by decide +kernel, rfl⟩
theorem d_V_measure_7 : gD m_V_measure 7 (.getfield 23) 3 10 := ⟨by decide +kernel, rfl⟩
theorem d_V_measure_10 : gD m_V_measure 10 (.if_icmp .ge 38) 3 13 := ⟨by decide +kernel, rfl⟩
theorem d_V_measure_13 : gD m_V_measure 13 (.aload_n 0) 1 14 := ⟨by decide +kernel, rfl⟩
theorem d_V_measure_14 : gD m_V_measure 14 (.getfield 19) 3 17 := ⟨by decide +kernel, rfl⟩
theorem d_V_measure_17 : gD m_V_measure 17 (.getfield 29) 3 20 := ⟨by decide +kernel, rfl⟩
theorem d_V_measure_20 : gD m_V_measure 20 (.iload_n 1) 1 21 := ⟨by decide +kernel, rfl⟩
theorem d_V_measure_21 : gD m_V_measure 21 .aaload 1 22 := ⟨by decide +kernel, rfl⟩
theorem d_V_measure_22 : gD m_V_measure 22 (.astore_n 2) 1 23 := ⟨by decide +kernel, rfl⟩
theorem d_V_measure_23 : gD m_V_measure 23 (.aload_n 2) 1 24 := ⟨by decide +kernel, rfl⟩
theorem d_V_measure_24 : gD m_V_measure 24 (.getfield 33) 3 27 := ⟨by decide +kernel, rfl⟩
theorem d_V_measure_27 : gD m_V_measure 27 (.aload_n 0) 1 28 := ⟨by decide +kernel, rfl⟩
theorem d_V_measure_28 : gD m_V_measure 28 (.getfield 9) 3 31 := ⟨by decide +kernel, rfl⟩
theorem d_V_measure_31 : gD m_V_measure 31 (.aload_n 0) 1 32 := ⟨by decide +kernel, rfl⟩
theorem d_V_measure_32 : gD m_V_measure 32 (.getfield 15) 3 35 := ⟨by decide +kernel, rfl⟩
theorem d_V_measure_35 : gD m_V_measure 35 (.aload_n 2) 1 36 := ⟨by decide +kernel, rfl⟩
theorem d_V_measure_36 : gD m_V_measure 36 (.getfield 39) 3 39 := ⟨by decide +kernel, rfl⟩
theorem d_V_measure_39 : gD m_V_measure 39 (.invokevirtual 43) 3 42 := ⟨by decide +kernel, rfl⟩
theorem d_V_measure_42 : gD m_V_measure 42 (.iinc 1 1) 3 45 := ⟨by decide +kernel, rfl⟩
theorem d_V_measure_45 : gD m_V_measure 45 (.goto (-43)) 3 48 := ⟨by decide +kernel, rfl⟩
theorem d_V_measure_48 : gD m_V_measure 48 .return_ 1 49 := ⟨by decide +kernel, rfl⟩
theorem d_V_bestSet_0 : gD m_V_bestSet 0 (.aload_n 0) 1 1 := ⟨by decide +kernel, rfl⟩
theorem d_V_bestSet_1 : gD m_V_bestSet 1 (.getfield 9) 3 4 := ⟨by decide +kernel, rfl⟩
theorem d_V_bestSet_4 : gD m_V_bestSet 4 (.invokevirtual 70) 3 7 := ⟨by decide +kernel, rfl⟩
theorem d_V_bestSet_7 : gD m_V_bestSet 7 (.istore_n 2) 1 8 := ⟨by decide +kernel, rfl⟩
theorem d_V_bestSet_8 : gD m_V_bestSet 8 (.iconst 0) 1 9 := ⟨by decide +kernel, rfl⟩
theorem d_V_bestSet_9 : gD m_V_bestSet 9 (.istore_n 3) 1 10 := ⟨by decide +kernel, rfl⟩
theorem d_V_bestSet_10 : gD m_V_bestSet 10 (.aload_n 0) 1 11 := ⟨by decide +kernel, rfl⟩
theorem d_V_bestSet_11 : gD m_V_bestSet 11 (.iload_n 3) 1 12 := ⟨by decide +kernel, rfl⟩
theorem d_V_bestSet_12 : gD m_V_bestSet 12 (.invokevirtual 73) 3 15 := ⟨by decide +kernel, rfl⟩
theorem d_V_bestSet_15 : gD m_V_bestSet 15 (.lstore 4) 2 17 := ⟨by decide +kernel, rfl⟩
theorem d_V_bestSet_17 : gD m_V_bestSet 17 (.iconst 1) 1 18 := ⟨by decide +kernel, rfl⟩
theorem d_V_bestSet_18 : gD m_V_bestSet 18 (.istore 6) 2 20 := ⟨by decide +kernel, rfl⟩
end
section
/-! decode rows (wip/emit.py) -/
theorem d_V_bestSet_20 : gD m_V_bestSet 20 (.iload 6) 2 22 := ⟨by decide +kernel, rfl⟩
theorem d_V_bestSet_22 : gD m_V_bestSet 22 (.sipush 512) 3 25 := ⟨by decide +kernel, rfl⟩
theorem d_V_bestSet_25 : gD m_V_bestSet 25 (.if_icmp .ge 64) 3 28 := ⟨by decide +kernel, rfl⟩
theorem d_V_bestSet_28 : gD m_V_bestSet 28 (.iload 6) 2 30 := ⟨by decide +kernel, rfl⟩
theorem d_V_bestSet_30 : gD m_V_bestSet 30 (.invokestatic 65) 3 33 := ⟨by decide +kernel, rfl⟩
theorem d_V_bestSet_33 : gD m_V_bestSet 33 (.istore 7) 2 35 := ⟨by decide +kernel, rfl⟩
theorem d_V_bestSet_35 : gD m_V_bestSet 35 (.iload 7) 2 37 := ⟨by decide +kernel, rfl⟩
theorem d_V_bestSet_37 : gD m_V_bestSet 37 (.iload_n 2) 1 38 := ⟨by decide +kernel, rfl⟩
theorem d_V_bestSet_38 : gD m_V_bestSet 38 .imul 1 39 := ⟨by decide +kernel, rfl⟩
theorem d_V_bestSet_39 : gD m_V_bestSet 39 (.iload_n 1) 1 40 := ⟨by decide +kernel, rfl⟩
theorem d_V_bestSet_40 : gD m_V_bestSet 40 (.if_icmp .gt 43) 3 43 := ⟨by decide +kernel, rfl⟩
theorem d_V_bestSet_43 : gD m_V_bestSet 43 (.aload_n 0) 1 44 := ⟨by decide +kernel, rfl⟩
theorem d_V_bestSet_44 : gD m_V_bestSet 44 (.iload 6) 2 46 := ⟨by decide +kernel, rfl⟩
theorem d_V_bestSet_46 : gD m_V_bestSet 46 (.invokevirtual 73) 3 49 := ⟨by decide +kernel, rfl⟩
theorem d_V_bestSet_49 : gD m_V_bestSet 49 (.lstore 8) 2 51 := ⟨by decide +kernel, rfl⟩
theorem d_V_bestSet_51 : gD m_V_bestSet 51 (.lload 8) 2 53 := ⟨by decide +kernel, rfl⟩
theorem d_V_bestSet_53 : gD m_V_bestSet 53 (.lload 4) 2 55 := ⟨by decide +kernel, rfl⟩
theorem d_V_bestSet_55 : gD m_V_bestSet 55 .lcmp 1 56 := ⟨by decide +kernel, rfl⟩
theorem d_V_bestSet_56 : gD m_V_bestSet 56 (.ifCond .lt 20) 3 59 := ⟨by decide +kernel, rfl⟩
theorem d_V_bestSet_59 : gD m_V_bestSet 59 (.lload 8) 2 61 := ⟨by decide +kernel, rfl⟩
theorem d_V_bestSet_61 : gD m_V_bestSet 61 (.lload 4) 2 63 := ⟨by decide +kernel, rfl⟩
theorem d_V_bestSet_63 : gD m_V_bestSet 63 .lcmp 1 64 := ⟨by decide +kernel, rfl⟩
theorem d_V_bestSet_64 : gD m_V_bestSet 64 (.ifCond .ne 19) 3 67 := ⟨by decide +kernel, rfl⟩
theorem d_V_bestSet_67 : gD m_V_bestSet 67 (.iload 7) 2 69 := ⟨by decide +kernel, rfl⟩
theorem d_V_bestSet_69 : gD m_V_bestSet 69 (.iload_n 3) 1 70 := ⟨by decide +kernel, rfl⟩
theorem d_V_bestSet_70 : gD m_V_bestSet 70 (.invokestatic 65) 3 73 := ⟨by decide +kernel, rfl⟩
theorem d_V_bestSet_73 : gD m_V_bestSet 73 (.if_icmp .ge 10) 3 76 := ⟨by decide +kernel, rfl⟩
theorem d_V_bestSet_76 : gD m_V_bestSet 76 (.iload 6) 2 78 := ⟨by decide +kernel, rfl⟩
theorem d_V_bestSet_78 : gD m_V_bestSet 78 (.istore_n 3) 1 79 := ⟨by decide +kernel, rfl⟩
theorem d_V_bestSet_79 : gD m_V_bestSet 79 (.lload 8) 2 81 := ⟨by decide +kernel, rfl⟩
theorem d_V_bestSet_81 : gD m_V_bestSet 81 (.lstore 4) 2 83 := ⟨by decide +kernel, rfl⟩
theorem d_V_bestSet_83 : gD m_V_bestSet 83 (.iinc 6 1) 3 86 := ⟨by decide +kernel, rfl⟩
theorem d_V_bestSet_86 : gD m_V_bestSet 86 (.goto (-66)) 3 89 := ⟨by decide +kernel, rfl⟩
theorem d_V_bestSet_89 : gD m_V_bestSet 89 (.iload_n 3) 1 90 := ⟨by decide +kernel, rfl⟩
theorem d_V_bestSet_90 : gD m_V_bestSet 90 .ireturn 1 91 := ⟨by decide +kernel, rfl⟩
theorem d_T_indexSize_0 : gD m_T_indexSize 0 (.aload_n 0) 1 1 := ⟨by decide +kernel, rfl⟩
theorem d_T_indexSize_1 : gD m_T_indexSize 1 (.invokevirtual 44) 3 4 := ⟨by decide +kernel, rfl⟩
theorem d_T_indexSize_4 : gD m_T_indexSize 4 (.istore_n 1) 1 5 := ⟨by decide +kernel, rfl⟩
theorem d_T_indexSize_5 : gD m_T_indexSize 5 (.aload_n 0) 1 6 := ⟨by decide +kernel, rfl⟩
theorem d_T_indexSize_6 : gD m_T_indexSize 6 (.invokevirtual 40) 3 9 := ⟨by decide +kernel, rfl⟩
theorem d_T_indexSize_9 : gD m_T_indexSize 9 (.istore_n 2) 1 10 := ⟨by decide +kernel, rfl⟩
theorem d_T_indexSize_10 : gD m_T_indexSize 10 (.iload_n 2) 1 11 := ⟨by decide +kernel, rfl⟩
theorem d_T_indexSize_11 : gD m_T_indexSize 11 (.istore_n 3) 1 12 := ⟨by decide +kernel, rfl⟩
theorem d_T_indexSize_12 : gD m_T_indexSize 12 (.iconst 1) 1 13 := ⟨by decide +kernel, rfl⟩
theorem d_T_indexSize_13 : gD m_T_indexSize 13 (.istore 4) 2 15 := ⟨by decide +kernel, rfl⟩
theorem d_T_indexSize_15 : gD m_T_indexSize 15 (.iload 4) 2 17 := ⟨by decide +kernel, rfl⟩
theorem d_T_indexSize_17 : gD m_T_indexSize 17 (.iload_n 1) 1 18 := ⟨by decide +kernel, rfl⟩
theorem d_T_indexSize_18 : gD m_T_indexSize 18 (.if_icmp .gt 18) 3 21 := ⟨by decide +kernel, rfl⟩
theorem d_T_indexSize_21 : gD m_T_indexSize 21 (.iload_n 2) 1 22 := ⟨by decide +kernel, rfl⟩
theorem d_T_indexSize_22 : gD m_T_indexSize 22 (.invokestatic 30) 3 25 := ⟨by decide +kernel, rfl⟩
theorem d_T_indexSize_25 : gD m_T_indexSize 25 (.istore_n 2) 1 26 := ⟨by decide +kernel, rfl⟩
theorem d_T_indexSize_26 : gD m_T_indexSize 26 (.iload_n 3) 1 27 := ⟨by decide +kernel, rfl⟩
theorem d_T_indexSize_27 : gD m_T_indexSize 27 (.iload_n 2) 1 28 := ⟨by decide +kernel, rfl⟩
theorem d_T_indexSize_28 : gD m_T_indexSize 28 .iadd 1 29 := ⟨by decide +kernel, rfl⟩
theorem d_T_indexSize_29 : gD m_T_indexSize 29 (.istore_n 3) 1 30 := ⟨by decide +kernel, rfl⟩
theorem d_T_indexSize_30 : gD m_T_indexSize 30 (.iinc 4 1) 3 33 := ⟨by decide +kernel, rfl⟩
theorem d_T_indexSize_33 : gD m_T_indexSize 33 (.goto (-18)) 3 36 := ⟨by decide +kernel, rfl⟩
theorem d_T_indexSize_36 : gD m_T_indexSize 36 (.iload_n 3) 1 37 := ⟨by decide +kernel, rfl⟩
theorem d_T_indexSize_37 : gD m_T_indexSize 37 .ireturn 1 38 := ⟨by decide +kernel, rfl⟩
theorem d_V_setCost_0 : gD m_V_setCost 0 (.lconst 0) 1 1 := ⟨by decide +kernel, rfl⟩
theorem d_V_setCost_1 : gD m_V_setCost 1 (.lstore_n 2) 1 2 := ⟨by decide +kernel, rfl⟩
theorem d_V_setCost_2 : gD m_V_setCost 2 (.iconst 0) 1 3 := ⟨by decide +kernel, rfl⟩
theorem d_V_setCost_3 : gD m_V_setCost 3 (.istore 4) 2 5 := ⟨by decide +kernel, rfl⟩
theorem d_V_setCost_5 : gD m_V_setCost 5 (.iload 4) 2 7 := ⟨by decide +kernel, rfl⟩
theorem d_V_setCost_7 : gD m_V_setCost 7 (.aload_n 0) 1 8 := ⟨by decide +kernel, rfl⟩
theorem d_V_setCost_8 : gD m_V_setCost 8 (.getfield 19) 3 11 := ⟨by decide +kernel, rfl⟩
theorem d_V_setCost_11 : gD m_V_setCost 11 (.getfield 23) 3 14 := ⟨by decide +kernel, rfl⟩
theorem d_V_setCost_14 : gD m_V_setCost 14 (.if_icmp .ge 41) 3 17 := ⟨by decide +kernel, rfl⟩
theorem d_V_setCost_17 : gD m_V_setCost 17 (.aload_n 0) 1 18 := ⟨by decide +kernel, rfl⟩
theorem d_V_setCost_18 : gD m_V_setCost 18 (.getfield 19) 3 21 := ⟨by decide +kernel, rfl⟩
theorem d_V_setCost_21 : gD m_V_setCost 21 (.getfield 29) 3 24 := ⟨by decide +kernel, rfl⟩
theorem d_V_setCost_24 : gD m_V_setCost 24 (.iload 4) 2 26 := ⟨by decide +kernel, rfl⟩
theorem d_V_setCost_26 : gD m_V_setCost 26 .aaload 1 27 := ⟨by decide +kernel, rfl⟩
theorem d_V_setCost_27 : gD m_V_setCost 27 (.astore 5) 2 29 := ⟨by decide +kernel, rfl⟩
theorem d_V_setCost_29 : gD m_V_setCost 29 (.lload_n 2) 1 30 := ⟨by decide +kernel, rfl⟩
theorem d_V_setCost_30 : gD m_V_setCost 30 (.aload 5) 2 32 := ⟨by decide +kernel, rfl⟩
theorem d_V_setCost_32 : gD m_V_setCost 32 (.getfield 49) 3 35 := ⟨by decide +kernel, rfl⟩
theorem d_V_setCost_35 : gD m_V_setCost 35 .i2l 1 36 := ⟨by decide +kernel, rfl⟩
theorem d_V_setCost_36 : gD m_V_setCost 36 (.aload 5) 2 38 := ⟨by decide +kernel, rfl⟩
theorem d_V_setCost_38 : gD m_V_setCost 38 (.getfield 33) 3 41 := ⟨by decide +kernel, rfl⟩
theorem d_V_setCost_41 : gD m_V_setCost 41 (.iload_n 1) 1 42 := ⟨by decide +kernel, rfl⟩
theorem d_V_setCost_42 : gD m_V_setCost 42 (.invokevirtual 52) 3 45 := ⟨by decide +kernel, rfl⟩
theorem d_V_setCost_45 : gD m_V_setCost 45 .i2l 1 46 := ⟨by decide +kernel, rfl⟩
theorem d_V_setCost_46 : gD m_V_setCost 46 .lmul 1 47 := ⟨by decide +kernel, rfl⟩
theorem d_V_setCost_47 : gD m_V_setCost 47 .ladd 1 48 := ⟨by decide +kernel, rfl⟩
theorem d_V_setCost_48 : gD m_V_setCost 48 (.lstore_n 2) 1 49 := ⟨by decide +kernel, rfl⟩
theorem d_V_setCost_49 : gD m_V_setCost 49 (.iinc 4 1) 3 52 := ⟨by decide +kernel, rfl⟩
theorem d_V_setCost_52 : gD m_V_setCost 52 (.goto (-47)) 3 55 := ⟨by decide +kernel, rfl⟩
theorem d_V_setCost_55 : gD m_V_setCost 55 (.aload_n 0) 1 56 := ⟨by decide +kernel, rfl⟩
theorem d_V_setCost_56 : gD m_V_setCost 56 (.getfield 19) 3 59 := ⟨by decide +kernel, rfl⟩
theorem d_V_setCost_59 : gD m_V_setCost 59 (.getfield 56) 3 62 := ⟨by decide +kernel, rfl⟩
theorem d_V_setCost_62 : gD m_V_setCost 62 .i2l 1 63 := ⟨by decide +kernel, rfl⟩
theorem d_V_setCost_63 : gD m_V_setCost 63 (.aload_n 0) 1 64 := ⟨by decide +kernel, rfl⟩
theorem d_V_setCost_64 : gD m_V_setCost 64 (.getfield 9) 3 67 := ⟨by decide +kernel, rfl⟩
theorem d_V_setCost_67 : gD m_V_setCost 67 (.invokevirtual 59) 3 70 := ⟨by decide +kernel, rfl⟩
theorem d_V_setCost_70 : gD m_V_setCost 70 (.iconst 1) 1 71 := ⟨by decide +kernel, rfl⟩
theorem d_V_setCost_71 : gD m_V_setCost 71 .iadd 1 72 := ⟨by decide +kernel, rfl⟩
theorem d_V_setCost_72 : gD m_V_setCost 72 .i2l 1 73 := ⟨by decide +kernel, rfl⟩
theorem d_V_setCost_73 : gD m_V_setCost 73 .lmul 1 74 := ⟨by decide +kernel, rfl⟩
theorem d_V_setCost_74 : gD m_V_setCost 74 (.lstore 4) 2 76 := ⟨by decide +kernel, rfl⟩
theorem d_V_setCost_76 : gD m_V_setCost 76 (.lload_n 2) 1 77 := ⟨by decide +kernel, rfl⟩
theorem d_V_setCost_77 : gD m_V_setCost 77 (.lload 4) 2 79 := ⟨by decide +kernel, rfl⟩
theorem d_V_setCost_79 : gD m_V_setCost 79 (.iload_n 1) 1 80 := ⟨by decide +kernel, rfl⟩
theorem d_V_setCost_80 : gD m_V_setCost 80 (.invokestatic 65) 3 83 := ⟨by decide +kernel, rfl⟩
theorem d_V_setCost_83 : gD m_V_setCost 83 .i2l 1 84 := ⟨by decide +kernel, rfl⟩
theorem d_V_setCost_84 : gD m_V_setCost 84 .lmul 1 85 := ⟨by decide +kernel, rfl⟩
theorem d_V_setCost_85 : gD m_V_setCost 85 .ladd 1 86 := ⟨by decide +kernel, rfl⟩
theorem d_V_setCost_86 : gD m_V_setCost 86 .lreturn 1 87 := ⟨by decide +kernel, rfl⟩
theorem d_W_least_0 : gD m_W_least 0 (.aload_n 0) 1 1 := ⟨by decide +kernel, rfl⟩
theorem d_W_least_1 : gD m_W_least 1 (.aload_n 0) 1 2 := ⟨by decide +kernel, rfl⟩
theorem d_W_least_2 : gD m_W_least 2 (.iload_n 1) 1 3 := ⟨by decide +kernel, rfl⟩
theorem d_W_least_3 : gD m_W_least 3 (.invokevirtual 47) 3 6 := ⟨by decide +kernel, rfl⟩
theorem d_W_least_6 : gD m_W_least 6 (.invokevirtual 43) 3 9 := ⟨by decide +kernel, rfl⟩
theorem d_W_least_9 : gD m_W_least 9 .ireturn 1 10 := ⟨by decide +kernel, rfl⟩
theorem d_J_bitCount_0 : gD m_J_bitCount 0 (.iload_n 0) 1 1 := ⟨by decide +kernel, rfl⟩
theorem d_J_bitCount_1 : gD m_J_bitCount 1 (.iload_n 0) 1 2 := ⟨by decide +kernel, rfl⟩
theorem d_J_bitCount_2 : gD m_J_bitCount 2 (.iconst 1) 1 3 := ⟨by decide +kernel, rfl⟩
theorem d_J_bitCount_3 : gD m_J_bitCount 3 .iushr 1 4 := ⟨by decide +kernel, rfl⟩
theorem d_J_bitCount_4 : gD m_J_bitCount 4 (.ldc_w 265) 3 7 := ⟨by decide +kernel, rfl⟩
theorem d_J_bitCount_7 : gD m_J_bitCount 7 .iand 1 8 := ⟨by decide +kernel, rfl⟩
theorem d_J_bitCount_8 : gD m_J_bitCount 8 .isub 1 9 := ⟨by decide +kernel, rfl⟩
theorem d_J_bitCount_9 : gD m_J_bitCount 9 (.istore_n 0) 1 10 := ⟨by decide +kernel, rfl⟩
theorem d_J_bitCount_10 : gD m_J_bitCount 10 (.iload_n 0) 1 11 := ⟨by decide +kernel, rfl⟩
theorem d_J_bitCount_11 : gD m_J_bitCount 11 (.ldc_w 266) 3 14 := ⟨by decide +kernel, rfl⟩
theorem d_J_bitCount_14 : gD m_J_bitCount 14 .iand 1 15 := ⟨by decide +kernel, rfl⟩
theorem d_J_bitCount_15 : gD m_J_bitCount 15 (.iload_n 0) 1 16 := ⟨by decide +kernel, rfl⟩
theorem d_J_bitCount_16 : gD m_J_bitCount 16 (.iconst 2) 1 17 := ⟨by decide +kernel, rfl⟩
theorem d_J_bitCount_17 : gD m_J_bitCount 17 .iushr 1 18 := ⟨by decide +kernel, rfl⟩
theorem d_J_bitCount_18 : gD m_J_bitCount 18 (.ldc_w 266) 3 21 := ⟨by decide +kernel, rfl⟩
theorem d_J_bitCount_21 : gD m_J_bitCount 21 .iand 1 22 := ⟨by decide +kernel, rfl⟩
theorem d_J_bitCount_22 : gD m_J_bitCount 22 .iadd 1 23 := ⟨by decide +kernel, rfl⟩
theorem d_J_bitCount_23 : gD m_J_bitCount 23 (.istore_n 0) 1 24 := ⟨by decide +kernel, rfl⟩
theorem d_J_bitCount_24 : gD m_J_bitCount 24 (.iload_n 0) 1 25 := ⟨by decide +kernel, rfl⟩
theorem d_J_bitCount_25 : gD m_J_bitCount 25 (.iload_n 0) 1 26 := ⟨by decide +kernel, rfl⟩
theorem d_J_bitCount_26 : gD m_J_bitCount 26 (.iconst 4) 1 27 := ⟨by decide +kernel, rfl⟩
theorem d_J_bitCount_27 : gD m_J_bitCount 27 .iushr 1 28 := ⟨by decide +kernel, rfl⟩
theorem d_J_bitCount_28 : gD m_J_bitCount 28 .iadd 1 29 := ⟨by decide +kernel, rfl⟩
theorem d_J_bitCount_29 : gD m_J_bitCount 29 (.ldc_w 267) 3 32 := ⟨by decide +kernel, rfl⟩
theorem d_J_bitCount_32 : gD m_J_bitCount 32 .iand 1 33 := ⟨by decide +kernel, rfl⟩
theorem d_J_bitCount_33 : gD m_J_bitCount 33 (.istore_n 0) 1 34 := ⟨by decide +kernel, rfl⟩
theorem d_J_bitCount_34 : gD m_J_bitCount 34 (.iload_n 0) 1 35 := ⟨by decide +kernel, rfl⟩
theorem d_J_bitCount_35 : gD m_J_bitCount 35 (.iload_n 0) 1 36 := ⟨by decide +kernel, rfl⟩
theorem d_J_bitCount_36 : gD m_J_bitCount 36 (.bipush 8) 2 38 := ⟨by decide +kernel, rfl⟩
theorem d_J_bitCount_38 : gD m_J_bitCount 38 .iushr 1 39 := ⟨by decide +kernel, rfl⟩
theorem d_J_bitCount_39 : gD m_J_bitCount 39 .iadd 1 40 := ⟨by decide +kernel, rfl⟩
theorem d_J_bitCount_40 : gD m_J_bitCount 40 (.istore_n 0) 1 41 := ⟨by decide +kernel, rfl⟩
theorem d_J_bitCount_41 : gD m_J_bitCount 41 (.iload_n 0) 1 42 := ⟨by decide +kernel, rfl⟩
theorem d_J_bitCount_42 : gD m_J_bitCount 42 (.iload_n 0) 1 43 := ⟨by decide +kernel, rfl⟩
theorem d_J_bitCount_43 : gD m_J_bitCount 43 (.bipush 16) 2 45 := ⟨by decide +kernel, rfl⟩
theorem d_J_bitCount_45 : gD m_J_bitCount 45 .iushr 1 46 := ⟨by decide +kernel, rfl⟩
theorem d_J_bitCount_46 : gD m_J_bitCount 46 .iadd 1 47 := ⟨by decide +kernel, rfl⟩
theorem d_J_bitCount_47 : gD m_J_bitCount 47 (.istore_n 0) 1 48 := ⟨by decide +kernel, rfl⟩
theorem d_J_bitCount_48 : gD m_J_bitCount 48 (.iload_n 0) 1 49 := ⟨by decide +kernel, rfl⟩
theorem d_J_bitCount_49 : gD m_J_bitCount 49 (.bipush 63) 2 51 := ⟨by decide +kernel, rfl⟩
theorem d_J_bitCount_51 : gD m_J_bitCount 51 .iand 1 52 := ⟨by decide +kernel, rfl⟩
theorem d_J_bitCount_52 : gD m_J_bitCount 52 .ireturn 1 53 := ⟨by decide +kernel, rfl⟩
theorem d_L_cell_0 : gD m_L_cell 0 (.iload_n 1) 1 1 := ⟨by decide +kernel, rfl⟩
theorem d_L_cell_1 : gD m_L_cell 1 (.aload_n 0) 1 2 := ⟨by decide +kernel, rfl⟩
theorem d_L_cell_2 : gD m_L_cell 2 .arraylength 1 3 := ⟨by decide +kernel, rfl⟩
theorem d_L_cell_3 : gD m_L_cell 3 (.if_icmp .ge 9) 3 6 := ⟨by decide +kernel, rfl⟩
theorem d_L_cell_6 : gD m_L_cell 6 (.aload_n 0) 1 7 := ⟨by decide +kernel, rfl⟩
theorem d_L_cell_7 : gD m_L_cell 7 (.iload_n 1) 1 8 := ⟨by decide +kernel, rfl⟩
theorem d_L_cell_8 : gD m_L_cell 8 .iaload 1 9 := ⟨by decide +kernel, rfl⟩
theorem d_L_cell_9 : gD m_L_cell 9 (.goto 4) 3 12 := ⟨by decide +kernel, rfl⟩
theorem d_L_cell_12 : gD m_L_cell 12 (.iconst 0) 1 13 := ⟨by decide +kernel, rfl⟩
theorem d_L_cell_13 : gD m_L_cell 13 .ireturn 1 14 := ⟨by decide +kernel, rfl⟩
theorem d_L_insert_0 : gD m_L_insert 0 (.aload 4) 2 2 := ⟨by decide +kernel, rfl⟩
theorem d_L_insert_2 : gD m_L_insert 2 (.iconst 0) 1 3 := ⟨by decide +kernel, rfl⟩
theorem d_L_insert_3 : gD m_L_insert 3 (.aload_n 0) 1 4 := ⟨by decide +kernel, rfl⟩
theorem d_L_insert_4 : gD m_L_insert 4 (.iload_n 1) 1 5 := ⟨by decide +kernel, rfl⟩
theorem d_L_insert_5 : gD m_L_insert 5 (.iload_n 2) 1 6 := ⟨by decide +kernel, rfl⟩
theorem d_L_insert_6 : gD m_L_insert 6 (.iload_n 3) 1 7 := ⟨by decide +kernel, rfl⟩
theorem d_L_insert_7 : gD m_L_insert 7 (.invokevirtual 7) 3 10 := ⟨by decide +kernel, rfl⟩
theorem d_L_insert_10 : gD m_L_insert 10 .i2l 1 11 := ⟨by decide +kernel, rfl⟩
theorem d_L_insert_11 : gD m_L_insert 11 .lastore 1 12 := ⟨by decide +kernel, rfl⟩
theorem d_L_insert_12 : gD m_L_insert 12 (.goto 11) 3 15 := ⟨by decide +kernel, rfl⟩
theorem d_L_insert_15 : gD m_L_insert 15 (.astore 5) 2 17 := ⟨by decide +kernel, rfl⟩
theorem d_L_insert_17 : gD m_L_insert 17 (.iconst 1) 1 18 := ⟨by decide +kernel, rfl⟩
theorem d_L_insert_18 : gD m_L_insert 18 .ireturn 1 19 := ⟨by decide +kernel, rfl⟩
theorem d_L_insert_19 : gD m_L_insert 19 (.astore 5) 2 21 := ⟨by decide +kernel, rfl⟩
theorem d_L_insert_21 : gD m_L_insert 21 (.iconst 2) 1 22 := ⟨by decide +kernel, rfl⟩
theorem d_L_insert_22 : gD m_L_insert 22 .ireturn 1 23 := ⟨by decide +kernel, rfl⟩
theorem d_L_insert_23 : gD m_L_insert 23 (.iconst 0) 1 24 := ⟨by decide +kernel, rfl⟩
theorem d_L_insert_24 : gD m_L_insert 24 .ireturn 1 25 := ⟨by decide +kernel, rfl⟩
theorem d_A_insert_0 : gD m_A_insert 0 (.iload_n 1) 1 1 := ⟨by decide +kernel, rfl⟩
theorem d_A_insert_1 : gD m_A_insert 1 (.invokestatic 91) 3 4 := ⟨by decide +kernel, rfl⟩
theorem d_A_insert_4 : gD m_A_insert 4 (.iload_n 2) 1 5 := ⟨by decide +kernel, rfl⟩
theorem d_A_insert_5 : gD m_A_insert 5 (.invokestatic 91) 3 8 := ⟨by decide +kernel, rfl⟩
theorem d_A_insert_8 : gD m_A_insert 8 (.iload_n 3) 1 9 := ⟨by decide +kernel, rfl⟩
theorem d_A_insert_9 : gD m_A_insert 9 (.invokestatic 91) 3 12 := ⟨by decide +kernel, rfl⟩
theorem d_A_insert_12 : gD m_A_insert 12 (.aload_n 0) 1 13 := ⟨by decide +kernel, rfl⟩
theorem d_A_insert_13 : gD m_A_insert 13 (.getfield 12) 3 16 := ⟨by decide +kernel, rfl⟩
theorem d_A_insert_16 : gD m_A_insert 16 (.invokevirtual 94) 3 19 := ⟨by decide +kernel, rfl⟩
theorem d_A_insert_19 : gD m_A_insert 19 (.ifCond .eq 13) 3 22 := ⟨by decide +kernel, rfl⟩
theorem d_A_insert_22 : gD m_A_insert 22 (.new 98) 3 25 := ⟨by decide +kernel, rfl⟩
theorem d_A_insert_25 : gD m_A_insert 25 .dup 1 26 := ⟨by decide +kernel, rfl⟩
theorem d_A_insert_26 : gD m_A_insert 26 (.ldc 100) 2 28 := ⟨by decide +kernel, rfl⟩
theorem d_A_insert_28 : gD m_A_insert 28 (.invokespecial 102) 3 31 := ⟨by decide +kernel, rfl⟩
theorem d_A_insert_31 : gD m_A_insert 31 .athrow 1 32 := ⟨by decide +kernel, rfl⟩
theorem d_A_insert_32 : gD m_A_insert 32 (.aload_n 0) 1 33 := ⟨by decide +kernel, rfl⟩
theorem d_A_insert_33 : gD m_A_insert 33 (.getfield 12) 3 36 := ⟨by decide +kernel, rfl⟩
theorem d_A_insert_36 : gD m_A_insert 36 (.iload_n 1) 1 37 := ⟨by decide +kernel, rfl⟩
theorem d_A_insert_37 : gD m_A_insert 37 (.iload_n 2) 1 38 := ⟨by decide +kernel, rfl⟩
theorem d_A_insert_38 : gD m_A_insert 38 (.iload_n 3) 1 39 := ⟨by decide +kernel, rfl⟩
theorem d_A_insert_39 : gD m_A_insert 39 (.invokevirtual 105) 3 42 := ⟨by decide +kernel, rfl⟩
theorem d_A_insert_42 : gD m_A_insert 42 (.istore 4) 2 44 := ⟨by decide +kernel, rfl⟩
theorem d_A_insert_44 : gD m_A_insert 44 (.aload_n 0) 1 45 := ⟨by decide +kernel, rfl⟩
theorem d_A_insert_45 : gD m_A_insert 45 (.iload 4) 2 47 := ⟨by decide +kernel, rfl⟩
theorem d_A_insert_47 : gD m_A_insert 47 (.invokevirtual 109) 3 50 := ⟨by decide +kernel, rfl⟩
theorem d_A_insert_50 : gD m_A_insert 50 (.iload 4) 2 52 := ⟨by decide +kernel, rfl⟩
theorem d_A_insert_52 : gD m_A_insert 52 .ireturn 1 53 := ⟨by decide +kernel, rfl⟩
theorem d_A_requireValue_0 : gD m_A_requireValue 0 (.iload_n 0) 1 1 := ⟨by decide +kernel, rfl⟩
theorem d_A_requireValue_1 : gD m_A_requireValue 1 (.sipush (-1000)) 3 4 := ⟨by decide +kernel, rfl⟩
theorem d_A_requireValue_4 : gD m_A_requireValue 4 (.if_icmp .lt 10) 3 7 := ⟨by decide +kernel, rfl⟩
theorem d_A_requireValue_7 : gD m_A_requireValue 7 (.iload_n 0) 1 8 := ⟨by decide +kernel, rfl⟩
theorem d_A_requireValue_8 : gD m_A_requireValue 8 (.sipush 1000) 3 11 := ⟨by decide +kernel, rfl⟩
theorem d_A_requireValue_11 : gD m_A_requireValue 11 (.if_icmp .le 14) 3 14 := ⟨by decide +kernel, rfl⟩
theorem d_A_requireValue_14 : gD m_A_requireValue 14 (.new 129) 3 17 := ⟨by decide +kernel, rfl⟩
theorem d_A_requireValue_17 : gD m_A_requireValue 17 .dup 1 18 := ⟨by decide +kernel, rfl⟩
theorem d_A_requireValue_18 : gD m_A_requireValue 18 (.ldc_w 287) 3 21 := ⟨by decide +kernel, rfl⟩
theorem d_A_requireValue_21 : gD m_A_requireValue 21 (.invokespecial 133) 3 24 := ⟨by decide +kernel, rfl⟩
theorem d_A_requireValue_24 : gD m_A_requireValue 24 .athrow 1 25 := ⟨by decide +kernel, rfl⟩
theorem d_A_requireValue_25 : gD m_A_requireValue 25 .return_ 1 26 := ⟨by decide +kernel, rfl⟩
theorem d_T_isFull_0 : gD m_T_isFull 0 (.aload_n 0) 1 1 := ⟨by decide +kernel, rfl⟩
theorem d_T_isFull_1 : gD m_T_isFull 1 (.getfield 19) 3 4 := ⟨by decide +kernel, rfl⟩
theorem d_T_isFull_4 : gD m_T_isFull 4 (.bipush 64) 2 6 := ⟨by decide +kernel, rfl⟩
theorem d_T_isFull_6 : gD m_T_isFull 6 (.if_icmp .lt 7) 3 9 := ⟨by decide +kernel, rfl⟩
theorem d_T_isFull_9 : gD m_T_isFull 9 (.iconst 1) 1 10 := ⟨by decide +kernel, rfl⟩
theorem d_T_isFull_10 : gD m_T_isFull 10 (.goto 4) 3 13 := ⟨by decide +kernel, rfl⟩
theorem d_T_isFull_13 : gD m_T_isFull 13 (.iconst 0) 1 14 := ⟨by decide +kernel, rfl⟩
theorem d_T_isFull_14 : gD m_T_isFull 14 .ireturn 1 15 := ⟨by decide +kernel, rfl⟩
theorem d_T_add_0 : gD m_T_add 0 (.aload_n 0) 1 1 := ⟨by decide +kernel, rfl⟩
theorem d_T_add_1 : gD m_T_add 1 (.getfield 19) 3 4 := ⟨by decide +kernel, rfl⟩
theorem d_T_add_4 : gD m_T_add 4 (.istore 4) 2 6 := ⟨by decide +kernel, rfl⟩
theorem d_T_add_6 : gD m_T_add 6 (.aload_n 0) 1 7 := ⟨by decide +kernel, rfl⟩
theorem d_T_add_7 : gD m_T_add 7 .dup 1 8 := ⟨by decide +kernel, rfl⟩
theorem d_T_add_8 : gD m_T_add 8 (.getfield 19) 3 11 := ⟨by decide +kernel, rfl⟩
theorem d_T_add_11 : gD m_T_add 11 (.iconst 1) 1 12 := ⟨by decide +kernel, rfl⟩
theorem d_T_add_12 : gD m_T_add 12 .iadd 1 13 := ⟨by decide +kernel, rfl⟩
theorem d_T_add_13 : gD m_T_add 13 (.putfield 19) 3 16 := ⟨by decide +kernel, rfl⟩
theorem d_T_add_16 : gD m_T_add 16 (.aload_n 0) 1 17 := ⟨by decide +kernel, rfl⟩
theorem d_T_add_17 : gD m_T_add 17 (.iload 4) 2 19 := ⟨by decide +kernel, rfl⟩
theorem d_T_add_19 : gD m_T_add 19 (.iconst 0) 1 20 := ⟨by decide +kernel, rfl⟩
theorem d_T_add_20 : gD m_T_add 20 (.iload_n 1) 1 21 := ⟨by decide +kernel, rfl⟩
theorem d_T_add_21 : gD m_T_add 21 (.invokevirtual 23) 3 24 := ⟨by decide +kernel, rfl⟩
theorem d_T_add_24 : gD m_T_add 24 (.aload_n 0) 1 25 := ⟨by decide +kernel, rfl⟩
theorem d_T_add_25 : gD m_T_add 25 (.iload 4) 2 27 := ⟨by decide +kernel, rfl⟩
theorem d_T_add_27 : gD m_T_add 27 (.iconst 1) 1 28 := ⟨by decide +kernel, rfl⟩
theorem d_T_add_28 : gD m_T_add 28 (.iload_n 2) 1 29 := ⟨by decide +kernel, rfl⟩
theorem d_T_add_29 : gD m_T_add 29 (.invokevirtual 23) 3 32 := ⟨by decide +kernel, rfl⟩
theorem d_T_add_32 : gD m_T_add 32 (.aload_n 0) 1 33 := ⟨by decide +kernel, rfl⟩
theorem d_T_add_33 : gD m_T_add 33 (.iload 4) 2 35 := ⟨by decide +kernel, rfl⟩
theorem d_T_add_35 : gD m_T_add 35 (.iconst 2) 1 36 := ⟨by decide +kernel, rfl⟩
theorem d_T_add_36 : gD m_T_add 36 (.iload_n 3) 1 37 := ⟨by decide +kernel, rfl⟩
theorem d_T_add_37 : gD m_T_add 37 (.invokevirtual 23) 3 40 := ⟨by decide +kernel, rfl⟩
theorem d_T_add_40 : gD m_T_add 40 (.aload_n 0) 1 41 := ⟨by decide +kernel, rfl⟩
theorem d_T_add_41 : gD m_T_add 41 (.getfield 15) 3 44 := ⟨by decide +kernel, rfl⟩
theorem d_T_add_44 : gD m_T_add 44 (.iload 4) 2 46 := ⟨by decide +kernel, rfl⟩
theorem d_T_add_46 : gD m_T_add 46 (.iconst 1) 1 47 := ⟨by decide +kernel, rfl⟩
theorem d_T_add_47 : gD m_T_add 47 .bastore 1 48 := ⟨by decide +kernel, rfl⟩
theorem d_T_add_48 : gD m_T_add 48 (.aload_n 0) 1 49 := ⟨by decide +kernel, rfl⟩
theorem d_T_add_49 : gD m_T_add 49 .dup 1 50 := ⟨by decide +kernel, rfl⟩
theorem d_T_add_50 : gD m_T_add 50 (.getfield 27) 3 53 := ⟨by decide +kernel, rfl⟩
theorem d_T_add_53 : gD m_T_add 53 (.iconst 1) 1 54 := ⟨by decide +kernel, rfl⟩
theorem d_T_add_54 : gD m_T_add 54 .iadd 1 55 := ⟨by decide +kernel, rfl⟩
theorem d_T_add_55 : gD m_T_add 55 (.putfield 27) 3 58 := ⟨by decide +kernel, rfl⟩
theorem d_T_add_58 : gD m_T_add 58 (.iload 4) 2 60 := ⟨by decide +kernel, rfl⟩
theorem d_T_add_60 : gD m_T_add 60 .ireturn 1 61 := ⟨by decide +kernel, rfl⟩
theorem d_T_put_0 : gD m_T_put 0 (.aload_n 0) 1 1 := ⟨by decide +kernel, rfl⟩
theorem d_T_put_1 : gD m_T_put 1 (.getfield 9) 3 4 := ⟨by decide +kernel, rfl⟩
theorem d_T_put_4 : gD m_T_put 4 (.iload_n 1) 1 5 := ⟨by decide +kernel, rfl⟩
theorem d_T_put_5 : gD m_T_put 5 (.iconst 3) 1 6 := ⟨by decide +kernel, rfl⟩
theorem d_T_put_6 : gD m_T_put 6 .imul 1 7 := ⟨by decide +kernel, rfl⟩
theorem d_T_put_7 : gD m_T_put 7 (.iload_n 2) 1 8 := ⟨by decide +kernel, rfl⟩
theorem d_T_put_8 : gD m_T_put 8 .iadd 1 9 := ⟨by decide +kernel, rfl⟩
theorem d_T_put_9 : gD m_T_put 9 (.iload_n 3) 1 10 := ⟨by decide +kernel, rfl⟩
theorem d_T_put_10 : gD m_T_put 10 .iastore 1 11 := ⟨by decide +kernel, rfl⟩
theorem d_T_put_11 : gD m_T_put 11 .return_ 1 12 := ⟨by decide +kernel, rfl⟩
theorem d_A_noteChange_0 : gD m_A_noteChange 0 (.aload_n 0) 1 1 := ⟨by decide +kernel, rfl⟩
theorem d_A_noteChange_1 : gD m_A_noteChange 1 (.getfield 51) 3 4 := ⟨by decide +kernel, rfl⟩
theorem d_A_noteChange_4 : gD m_A_noteChange 4 (.invokevirtual 289) 3 7 := ⟨by decide +kernel, rfl⟩
theorem d_A_noteChange_7 : gD m_A_noteChange 7 (.aload_n 0) 1 8 := ⟨by decide +kernel, rfl⟩
theorem d_A_noteChange_8 : gD m_A_noteChange 8 (.getfield 67) 3 11 := ⟨by decide +kernel, rfl⟩
theorem d_A_noteChange_11 : gD m_A_noteChange 11 (.iload_n 1) 1 12 := ⟨by decide +kernel, rfl⟩
theorem d_A_noteChange_12 : gD m_A_noteChange 12 (.invokevirtual 291) 3 15 := ⟨by decide +kernel, rfl⟩
theorem d_A_noteChange_15 : gD m_A_noteChange 15 .return_ 1 16 := ⟨by decide +kernel, rfl⟩
theorem d_D_noteChange_0 : gD m_D_noteChange 0 (.aload_n 0) 1 1 := ⟨by decide +kernel, rfl⟩
theorem d_D_noteChange_1 : gD m_D_noteChange 1 .dup 1 2 := ⟨by decide +kernel, rfl⟩
theorem d_D_noteChange_2 : gD m_D_noteChange 2 (.getfield 41) 3 5 := ⟨by decide +kernel, rfl⟩
theorem d_D_noteChange_5 : gD m_D_noteChange 5 (.iconst 4) 1 6 := ⟨by decide +kernel, rfl⟩
theorem d_D_noteChange_6 : gD m_D_noteChange 6 .iadd 1 7 := ⟨by decide +kernel, rfl⟩
theorem d_D_noteChange_7 : gD m_D_noteChange 7 (.putfield 41) 3 10 := ⟨by decide +kernel, rfl⟩
theorem d_D_noteChange_10 : gD m_D_noteChange 10 .return_ 1 11 := ⟨by decide +kernel, rfl⟩
theorem d_B_noteChange_0 : gD m_B_noteChange 0 (.aload_n 0) 1 1 := ⟨by decide +kernel, rfl⟩
theorem d_B_noteChange_1 : gD m_B_noteChange 1 (.invokevirtual 32) 3 4 := ⟨by decide +kernel, rfl⟩
theorem d_B_noteChange_4 : gD m_B_noteChange 4 (.ifCond .eq 21) 3 7 := ⟨by decide +kernel, rfl⟩
theorem d_B_noteChange_7 : gD m_B_noteChange 7 (.iload_n 1) 1 8 := ⟨by decide +kernel, rfl⟩
theorem d_B_noteChange_8 : gD m_B_noteChange 8 (.aload_n 0) 1 9 := ⟨by decide +kernel, rfl⟩
theorem d_B_noteChange_9 : gD m_B_noteChange 9 (.getfield 23) 3 12 := ⟨by decide +kernel, rfl⟩
theorem d_B_noteChange_12 : gD m_B_noteChange 12 (.if_icmp .ge 13) 3 15 := ⟨by decide +kernel, rfl⟩
theorem d_B_noteChange_15 : gD m_B_noteChange 15 (.aload_n 0) 1 16 := ⟨by decide +kernel, rfl⟩
theorem d_B_noteChange_16 : gD m_B_noteChange 16 .dup 1 17 := ⟨by decide +kernel, rfl⟩
theorem d_B_noteChange_17 : gD m_B_noteChange 17 (.getfield 26) 3 20 := ⟨by decide +kernel, rfl⟩
theorem d_B_noteChange_20 : gD m_B_noteChange 20 (.iconst 1) 1 21 := ⟨by decide +kernel, rfl⟩
theorem d_B_noteChange_21 : gD m_B_noteChange 21 .iadd 1 22 := ⟨by decide +kernel, rfl⟩
theorem d_B_noteChange_22 : gD m_B_noteChange 22 (.putfield 26) 3 25 := ⟨by decide +kernel, rfl⟩
theorem d_B_noteChange_25 : gD m_B_noteChange 25 .return_ 1 26 := ⟨by decide +kernel, rfl⟩
theorem d_B_isBusy_0 : gD m_B_isBusy 0 (.aload_n 0) 1 1 := ⟨by decide +kernel, rfl⟩
theorem d_B_isBusy_1 : gD m_B_isBusy 1 (.getfield 19) 3 4 := ⟨by decide +kernel, rfl⟩
theorem d_B_isBusy_4 : gD m_B_isBusy 4 (.iconst (-1)) 1 5 := ⟨by decide +kernel, rfl⟩
theorem d_B_isBusy_5 : gD m_B_isBusy 5 (.if_icmp .eq 7) 3 8 := ⟨by decide +kernel, rfl⟩
theorem d_B_isBusy_8 : gD m_B_isBusy 8 (.iconst 1) 1 9 := ⟨by decide +kernel, rfl⟩
theorem d_B_isBusy_9 : gD m_B_isBusy 9 (.goto 4) 3 12 := ⟨by decide +kernel, rfl⟩
theorem d_B_isBusy_12 : gD m_B_isBusy 12 (.iconst 0) 1 13 := ⟨by decide +kernel, rfl⟩
theorem d_B_isBusy_13 : gD m_B_isBusy 13 .ireturn 1 14 := ⟨by decide +kernel, rfl⟩
theorem d_L_delete_0 : gD m_L_delete 0 (.aload_n 0) 1 1 := ⟨by decide +kernel, rfl⟩
theorem d_L_delete_1 : gD m_L_delete 1 (.iload_n 1) 1 2 := ⟨by decide +kernel, rfl⟩
theorem d_L_delete_2 : gD m_L_delete 2 (.invokevirtual 17) 3 5 := ⟨by decide +kernel, rfl⟩
theorem d_L_delete_5 : gD m_L_delete 5 (.goto 6) 3 8 := ⟨by decide +kernel, rfl⟩
theorem d_L_delete_8 : gD m_L_delete 8 (.astore_n 2) 1 9 := ⟨by decide +kernel, rfl⟩
theorem d_L_delete_9 : gD m_L_delete 9 (.iconst 1) 1 10 := ⟨by decide +kernel, rfl⟩
theorem d_L_delete_10 : gD m_L_delete 10 .ireturn 1 11 := ⟨by decide +kernel, rfl⟩
theorem d_L_delete_11 : gD m_L_delete 11 (.iconst 0) 1 12 := ⟨by decide +kernel, rfl⟩
theorem d_L_delete_12 : gD m_L_delete 12 .ireturn 1 13 := ⟨by decide +kernel, rfl⟩
theorem d_A_delete_0 : gD m_A_delete 0 (.aload_n 0) 1 1 := ⟨by decide +kernel, rfl⟩
theorem d_A_delete_1 : gD m_A_delete 1 (.iload_n 1) 1 2 := ⟨by decide +kernel, rfl⟩
theorem d_A_delete_2 : gD m_A_delete 2 (.invokevirtual 112) 3 5 := ⟨by decide +kernel, rfl⟩
theorem d_A_delete_5 : gD m_A_delete 5 (.aload_n 0) 1 6 := ⟨by decide +kernel, rfl⟩
theorem d_A_delete_6 : gD m_A_delete 6 (.getfield 12) 3 9 := ⟨by decide +kernel, rfl⟩
theorem d_A_delete_9 : gD m_A_delete 9 (.iload_n 1) 1 10 := ⟨by decide +kernel, rfl⟩
theorem d_A_delete_10 : gD m_A_delete 10 (.invokevirtual 115) 3 13 := ⟨by decide +kernel, rfl⟩
theorem d_A_delete_13 : gD m_A_delete 13 (.aload_n 0) 1 14 := ⟨by decide +kernel, rfl⟩
theorem d_A_delete_14 : gD m_A_delete 14 (.iload_n 1) 1 15 := ⟨by decide +kernel, rfl⟩
theorem d_A_delete_15 : gD m_A_delete 15 (.invokevirtual 109) 3 18 := ⟨by decide +kernel, rfl⟩
theorem d_A_delete_18 : gD m_A_delete 18 .return_ 1 19 := ⟨by decide +kernel, rfl⟩
theorem d_A_requireRow_0 : gD m_A_requireRow 0 (.iload_n 1) 1 1 := ⟨by decide +kernel, rfl⟩
theorem d_A_requireRow_1 : gD m_A_requireRow 1 (.ifCond .lt 26) 3 4 := ⟨by decide +kernel, rfl⟩
theorem d_A_requireRow_4 : gD m_A_requireRow 4 (.iload_n 1) 1 5 := ⟨by decide +kernel, rfl⟩
theorem d_A_requireRow_5 : gD m_A_requireRow 5 (.aload_n 0) 1 6 := ⟨by decide +kernel, rfl⟩
theorem d_A_requireRow_6 : gD m_A_requireRow 6 (.getfield 12) 3 9 := ⟨by decide +kernel, rfl⟩
theorem d_A_requireRow_9 : gD m_A_requireRow 9 (.getfield 274) 3 12 := ⟨by decide +kernel, rfl⟩
theorem d_A_requireRow_12 : gD m_A_requireRow 12 (.if_icmp .ge 15) 3 15 := ⟨by decide +kernel, rfl⟩
theorem d_A_requireRow_15 : gD m_A_requireRow 15 (.aload_n 0) 1 16 := ⟨by decide +kernel, rfl⟩
theorem d_A_requireRow_16 : gD m_A_requireRow 16 (.getfield 12) 3 19 := ⟨by decide +kernel, rfl⟩
theorem d_A_requireRow_19 : gD m_A_requireRow 19 (.getfield 277) 3 22 := ⟨by decide +kernel, rfl⟩
theorem d_A_requireRow_22 : gD m_A_requireRow 22 (.iload_n 1) 1 23 := ⟨by decide +kernel, rfl⟩
theorem d_A_requireRow_23 : gD m_A_requireRow 23 .baload 1 24 := ⟨by decide +kernel, rfl⟩
theorem d_A_requireRow_24 : gD m_A_requireRow 24 (.ifCond .ne 14) 3 27 := ⟨by decide +kernel, rfl⟩
theorem d_A_requireRow_27 : gD m_A_requireRow 27 (.new 155) 3 30 := ⟨by decide +kernel, rfl⟩
theorem d_A_requireRow_30 : gD m_A_requireRow 30 .dup 1 31 := ⟨by decide +kernel, rfl⟩
theorem d_A_requireRow_31 : gD m_A_requireRow 31 (.ldc_w 281) 3 34 := ⟨by decide +kernel, rfl⟩
theorem d_A_requireRow_34 : gD m_A_requireRow 34 (.invokespecial 159) 3 37 := ⟨by decide +kernel, rfl⟩
theorem d_A_requireRow_37 : gD m_A_requireRow 37 .athrow 1 38 := ⟨by decide +kernel, rfl⟩
theorem d_A_requireRow_38 : gD m_A_requireRow 38 .return_ 1 39 := ⟨by decide +kernel, rfl⟩
theorem d_T_remove_0 : gD m_T_remove 0 (.aload_n 0) 1 1 := ⟨by decide +kernel, rfl⟩
theorem d_T_remove_1 : gD m_T_remove 1 (.getfield 15) 3 4 := ⟨by decide +kernel, rfl⟩
theorem d_T_remove_4 : gD m_T_remove 4 (.iload_n 1) 1 5 := ⟨by decide +kernel, rfl⟩
theorem d_T_remove_5 : gD m_T_remove 5 (.iconst 0) 1 6 := ⟨by decide +kernel, rfl⟩
theorem d_T_remove_6 : gD m_T_remove 6 .bastore 1 7 := ⟨by decide +kernel, rfl⟩
theorem d_T_remove_7 : gD m_T_remove 7 (.aload_n 0) 1 8 := ⟨by decide +kernel, rfl⟩
theorem d_T_remove_8 : gD m_T_remove 8 .dup 1 9 := ⟨by decide +kernel, rfl⟩
theorem d_T_remove_9 : gD m_T_remove 9 (.getfield 27) 3 12 := ⟨by decide +kernel, rfl⟩
theorem d_T_remove_12 : gD m_T_remove 12 (.iconst 1) 1 13 := ⟨by decide +kernel, rfl⟩
theorem d_T_remove_13 : gD m_T_remove 13 .isub 1 14 := ⟨by decide +kernel, rfl⟩
theorem d_T_remove_14 : gD m_T_remove 14 (.putfield 27) 3 17 := ⟨by decide +kernel, rfl⟩
theorem d_T_remove_17 : gD m_T_remove 17 .return_ 1 18 := ⟨by decide +kernel, rfl⟩
theorem d_L_change_0 : gD m_L_change 0 (.aload_n 0) 1 1 := ⟨by decide +kernel, rfl⟩
theorem d_L_change_1 : gD m_L_change 1 (.iload_n 1) 1 2 := ⟨by decide +kernel, rfl⟩
theorem d_L_change_2 : gD m_L_change 2 (.iload_n 2) 1 3 := ⟨by decide +kernel, rfl⟩
theorem d_L_change_3 : gD m_L_change 3 (.iload_n 3) 1 4 := ⟨by decide +kernel, rfl⟩
theorem d_L_change_4 : gD m_L_change 4 (.invokevirtual 23) 3 7 := ⟨by decide +kernel, rfl⟩
theorem d_L_change_7 : gD m_L_change 7 (.goto 11) 3 10 := ⟨by decide +kernel, rfl⟩
theorem d_L_change_10 : gD m_L_change 10 (.astore 4) 2 12 := ⟨by decide +kernel, rfl⟩
theorem d_L_change_12 : gD m_L_change 12 (.iconst 1) 1 13 := ⟨by decide +kernel, rfl⟩
theorem d_L_change_13 : gD m_L_change 13 .ireturn 1 14 := ⟨by decide +kernel, rfl⟩
theorem d_L_change_14 : gD m_L_change 14 (.astore 4) 2 16 := ⟨by decide +kernel, rfl⟩
theorem d_L_change_16 : gD m_L_change 16 (.iconst 2) 1 17 := ⟨by decide +kernel, rfl⟩
theorem d_L_change_17 : gD m_L_change 17 .ireturn 1 18 := ⟨by decide +kernel, rfl⟩
theorem d_L_change_18 : gD m_L_change 18 (.iconst 0) 1 19 := ⟨by decide +kernel, rfl⟩
theorem d_L_change_19 : gD m_L_change 19 .ireturn 1 20 := ⟨by decide +kernel, rfl⟩
theorem d_A_change_0 : gD m_A_change 0 (.aload_n 0) 1 1 := ⟨by decide +kernel, rfl⟩
theorem d_A_change_1 : gD m_A_change 1 (.iload_n 1) 1 2 := ⟨by decide +kernel, rfl⟩
theorem d_A_change_2 : gD m_A_change 2 (.invokevirtual 112) 3 5 := ⟨by decide +kernel, rfl⟩
theorem d_A_change_5 : gD m_A_change 5 (.iload_n 2) 1 6 := ⟨by decide +kernel, rfl⟩
theorem d_A_change_6 : gD m_A_change 6 (.invokestatic 118) 3 9 := ⟨by decide +kernel, rfl⟩
theorem d_A_change_9 : gD m_A_change 9 (.iload_n 3) 1 10 := ⟨by decide +kernel, rfl⟩
theorem d_A_change_10 : gD m_A_change 10 (.invokestatic 91) 3 13 := ⟨by decide +kernel, rfl⟩
theorem d_A_change_13 : gD m_A_change 13 (.aload_n 0) 1 14 := ⟨by decide +kernel, rfl⟩
theorem d_A_change_14 : gD m_A_change 14 (.getfield 12) 3 17 := ⟨by decide +kernel, rfl⟩
theorem d_A_change_17 : gD m_A_change 17 (.iload_n 1) 1 18 := ⟨by decide +kernel, rfl⟩
theorem d_A_change_18 : gD m_A_change 18 (.iload_n 2) 1 19 := ⟨by decide +kernel, rfl⟩
theorem d_A_change_19 : gD m_A_change 19 (.iload_n 3) 1 20 := ⟨by decide +kernel, rfl⟩
theorem d_A_change_20 : gD m_A_change 20 (.invokevirtual 121) 3 23 := ⟨by decide +kernel, rfl⟩
theorem d_A_change_23 : gD m_A_change 23 (.aload_n 0) 1 24 := ⟨by decide +kernel, rfl⟩
theorem d_A_change_24 : gD m_A_change 24 (.iload_n 1) 1 25 := ⟨by decide +kernel, rfl⟩
theorem d_A_change_25 : gD m_A_change 25 (.invokevirtual 109) 3 28 := ⟨by decide +kernel, rfl⟩
theorem d_A_change_28 : gD m_A_change 28 .return_ 1 29 := ⟨by decide +kernel, rfl⟩
theorem d_A_requireColumn_0 : gD m_A_requireColumn 0 (.iload_n 0) 1 1 := ⟨by decide +kernel, rfl⟩
theorem d_A_requireColumn_1 : gD m_A_requireColumn 1 (.ifCond .lt 8) 3 4 := ⟨by decide +kernel, rfl⟩
theorem d_A_requireColumn_4 : gD m_A_requireColumn 4 (.iload_n 0) 1 5 := ⟨by decide +kernel, rfl⟩
theorem d_A_requireColumn_5 : gD m_A_requireColumn 5 (.iconst 3) 1 6 := ⟨by decide +kernel, rfl⟩
theorem d_A_requireColumn_6 : gD m_A_requireColumn 6 (.if_icmp .lt 14) 3 9 := ⟨by decide +kernel, rfl⟩
theorem d_A_requireColumn_9 : gD m_A_requireColumn 9 (.new 155) 3 12 := ⟨by decide +kernel, rfl⟩
theorem d_A_requireColumn_12 : gD m_A_requireColumn 12 .dup 1 13 := ⟨by decide +kernel, rfl⟩
theorem d_A_requireColumn_13 : gD m_A_requireColumn 13 (.ldc_w 283) 3 16 := ⟨by decide +kernel, rfl⟩
theorem d_A_requireColumn_16 : gD m_A_requireColumn 16 (.invokespecial 159) 3 19 := ⟨by decide +kernel, rfl⟩
theorem d_A_requireColumn_19 : gD m_A_requireColumn 19 .athrow 1 20 := ⟨by decide +kernel, rfl⟩
theorem d_A_requireColumn_20 : gD m_A_requireColumn 20 .return_ 1 21 := ⟨by decide +kernel, rfl⟩
theorem d_L_value_0 : gD m_L_value 0 (.aload_n 3) 1 1 := ⟨by decide +kernel, rfl⟩
theorem d_L_value_1 : gD m_L_value 1 (.iconst 0) 1 2 := ⟨by decide +kernel, rfl⟩
theorem d_L_value_2 : gD m_L_value 2 (.aload_n 0) 1 3 := ⟨by decide +kernel, rfl⟩
theorem d_L_value_3 : gD m_L_value 3 (.iload_n 1) 1 4 := ⟨by decide +kernel, rfl⟩
theorem d_L_value_4 : gD m_L_value 4 (.iload_n 2) 1 5 := ⟨by decide +kernel, rfl⟩
theorem d_L_value_5 : gD m_L_value 5 (.invokevirtual 27) 3 8 := ⟨by decide +kernel, rfl⟩
theorem d_L_value_8 : gD m_L_value 8 .i2l 1 9 := ⟨by decide +kernel, rfl⟩
theorem d_L_value_9 : gD m_L_value 9 .lastore 1 10 := ⟨by decide +kernel, rfl⟩
theorem d_L_value_10 : gD m_L_value 10 (.goto 7) 3 13 := ⟨by decide +kernel, rfl⟩
theorem d_L_value_13 : gD m_L_value 13 (.astore 4) 2 15 := ⟨by decide +kernel, rfl⟩
theorem d_L_value_15 : gD m_L_value 15 (.iconst 1) 1 16 := ⟨by decide +kernel, rfl⟩
theorem d_L_value_16 : gD m_L_value 16 .ireturn 1 17 := ⟨by decide +kernel, rfl⟩
theorem d_L_value_17 : gD m_L_value 17 (.iconst 0) 1 18 := ⟨by decide +kernel, rfl⟩
theorem d_L_value_18 : gD m_L_value 18 .ireturn 1 19 := ⟨by decide +kernel, rfl⟩
theorem d_A_value_0 : gD m_A_value 0 (.aload_n 0) 1 1 := ⟨by decide +kernel, rfl⟩
theorem d_A_value_1 : gD m_A_value 1 (.iload_n 1) 1 2 := ⟨by decide +kernel, rfl⟩
theorem d_A_value_2 : gD m_A_value 2 (.invokevirtual 112) 3 5 := ⟨by decide +kernel, rfl⟩
theorem d_A_value_5 : gD m_A_value 5 (.iload_n 2) 1 6 := ⟨by decide +kernel, rfl⟩
theorem d_A_value_6 : gD m_A_value 6 (.invokestatic 118) 3 9 := ⟨by decide +kernel, rfl⟩
theorem d_A_value_9 : gD m_A_value 9 (.aload_n 0) 1 10 := ⟨by decide +kernel, rfl⟩
theorem d_A_value_10 : gD m_A_value 10 (.getfield 12) 3 13 := ⟨by decide +kernel, rfl⟩
theorem d_A_value_13 : gD m_A_value 13 (.iload_n 1) 1 14 := ⟨by decide +kernel, rfl⟩
theorem d_A_value_14 : gD m_A_value 14 (.iload_n 2) 1 15 := ⟨by decide +kernel, rfl⟩
theorem d_A_value_15 : gD m_A_value 15 (.invokevirtual 125) 3 18 := ⟨by decide +kernel, rfl⟩
theorem d_A_value_18 : gD m_A_value 18 .ireturn 1 19 := ⟨by decide +kernel, rfl⟩
theorem d_L_where_0 : gD m_L_where 0 (.aload_n 0) 1 1 := ⟨by decide +kernel, rfl⟩
theorem d_L_where_1 : gD m_L_where 1 (.iload_n 1) 1 2 := ⟨by decide +kernel, rfl⟩
theorem d_L_where_2 : gD m_L_where 2 (.iload_n 2) 1 3 := ⟨by decide +kernel, rfl⟩
theorem d_L_where_3 : gD m_L_where 3 (.iload_n 3) 1 4 := ⟨by decide +kernel, rfl⟩
theorem d_L_where_4 : gD m_L_where 4 (.iload 4) 2 6 := ⟨by decide +kernel, rfl⟩
theorem d_L_where_6 : gD m_L_where 6 (.invokevirtual 31) 3 9 := ⟨by decide +kernel, rfl⟩
theorem d_L_where_9 : gD m_L_where 9 (.goto 11) 3 12 := ⟨by decide +kernel, rfl⟩
theorem d_L_where_12 : gD m_L_where 12 (.astore 5) 2 14 := ⟨by decide +kernel, rfl⟩
theorem d_L_where_14 : gD m_L_where 14 (.iconst 1) 1 15 := ⟨by decide +kernel, rfl⟩
theorem d_L_where_15 : gD m_L_where 15 .ireturn 1 16 := ⟨by decide +kernel, rfl⟩
theorem d_L_where_16 : gD m_L_where 16 (.astore 5) 2 18 := ⟨by decide +kernel, rfl⟩
theorem d_L_where_18 : gD m_L_where 18 (.iconst 2) 1 19 := ⟨by decide +kernel, rfl⟩
theorem d_L_where_19 : gD m_L_where 19 .ireturn 1 20 := ⟨by decide +kernel, rfl⟩
theorem d_L_where_20 : gD m_L_where 20 (.iconst 0) 1 21 := ⟨by decide +kernel, rfl⟩
theorem d_L_where_21 : gD m_L_where 21 .ireturn 1 22 := ⟨by decide +kernel, rfl⟩
theorem d_A_where_0 : gD m_A_where 0 (.iload_n 1) 1 1 := ⟨by decide +kernel, rfl⟩
theorem d_A_where_1 : gD m_A_where 1 (.invokestatic 118) 3 4 := ⟨by decide +kernel, rfl⟩
theorem d_A_where_4 : gD m_A_where 4 (.iload_n 2) 1 5 := ⟨by decide +kernel, rfl⟩
theorem d_A_where_5 : gD m_A_where 5 (.ifCond .lt 8) 3 8 := ⟨by decide +kernel, rfl⟩
theorem d_A_where_8 : gD m_A_where 8 (.iload_n 2) 1 9 := ⟨by decide +kernel, rfl⟩
theorem d_A_where_9 : gD m_A_where 9 (.iconst 2) 1 10 := ⟨by decide +kernel, rfl⟩
theorem d_A_where_10 : gD m_A_where 10 (.if_icmp .le 13) 3 13 := ⟨by decide +kernel, rfl⟩
theorem d_A_where_13 : gD m_A_where 13 (.new 129) 3 16 := ⟨by decide +kernel, rfl⟩
theorem d_A_where_16 : gD m_A_where 16 .dup 1 17 := ⟨by decide +kernel, rfl⟩
theorem d_A_where_17 : gD m_A_where 17 (.ldc 131) 2 19 := ⟨by decide +kernel, rfl⟩
theorem d_A_where_19 : gD m_A_where 19 (.invokespecial 133) 3 22 := ⟨by decide +kernel, rfl⟩
theorem d_A_where_22 : gD m_A_where 22 .athrow 1 23 := ⟨by decide +kernel, rfl⟩
theorem d_A_where_23 : gD m_A_where 23 (.aload_n 0) 1 24 := ⟨by decide +kernel, rfl⟩
theorem d_A_where_24 : gD m_A_where 24 (.getfield 19) 3 27 := ⟨by decide +kernel, rfl⟩
theorem d_A_where_27 : gD m_A_where 27 (.iload_n 1) 1 28 := ⟨by decide +kernel, rfl⟩
theorem d_A_where_28 : gD m_A_where 28 (.iload_n 2) 1 29 := ⟨by decide +kernel, rfl⟩
theorem d_A_where_29 : gD m_A_where 29 (.iload_n 3) 1 30 := ⟨by decide +kernel, rfl⟩
theorem d_A_where_30 : gD m_A_where 30 (.iload 4) 2 32 := ⟨by decide +kernel, rfl⟩
theorem d_A_where_32 : gD m_A_where 32 (.invokevirtual 134) 3 35 := ⟨by decide +kernel, rfl⟩
theorem d_A_where_35 : gD m_A_where 35 .return_ 1 36 := ⟨by decide +kernel, rfl⟩
theorem d_L_order_0 : gD m_L_order 0 (.aload_n 0) 1 1 := ⟨by decide +kernel, rfl⟩
theorem d_L_order_1 : gD m_L_order 1 (.iload_n 1) 1 2 := ⟨by decide +kernel, rfl⟩
theorem d_L_order_2 : gD m_L_order 2 (.iload_n 2) 1 3 := ⟨by decide +kernel, rfl⟩
theorem d_L_order_3 : gD m_L_order 3 (.invokevirtual 35) 3 6 := ⟨by decide +kernel, rfl⟩
theorem d_L_order_6 : gD m_L_order 6 (.goto 9) 3 9 := ⟨by decide +kernel, rfl⟩
theorem d_L_order_9 : gD m_L_order 9 (.astore_n 3) 1 10 := ⟨by decide +kernel, rfl⟩
theorem d_L_order_10 : gD m_L_order 10 (.iconst 1) 1 11 := ⟨by decide +kernel, rfl⟩
theorem d_L_order_11 : gD m_L_order 11 .ireturn 1 12 := ⟨by decide +kernel, rfl⟩
theorem d_L_order_12 : gD m_L_order 12 (.astore_n 3) 1 13 := ⟨by decide +kernel, rfl⟩
theorem d_L_order_13 : gD m_L_order 13 (.iconst 2) 1 14 := ⟨by decide +kernel, rfl⟩
theorem d_L_order_14 : gD m_L_order 14 .ireturn 1 15 := ⟨by decide +kernel, rfl⟩
theorem d_L_order_15 : gD m_L_order 15 (.iconst 0) 1 16 := ⟨by decide +kernel, rfl⟩
theorem d_L_order_16 : gD m_L_order 16 .ireturn 1 17 := ⟨by decide +kernel, rfl⟩
theorem d_A_order_0 : gD m_A_order 0 (.iload_n 1) 1 1 := ⟨by decide +kernel, rfl⟩
theorem d_A_order_1 : gD m_A_order 1 (.iconst (-1)) 1 2 := ⟨by decide +kernel, rfl⟩
theorem d_A_order_2 : gD m_A_order 2 (.if_icmp .eq 7) 3 5 := ⟨by decide +kernel, rfl⟩
theorem d_A_order_5 : gD m_A_order 5 (.iload_n 1) 1 6 := ⟨by decide +kernel, rfl⟩
theorem d_A_order_6 : gD m_A_order 6 (.invokestatic 118) 3 9 := ⟨by decide +kernel, rfl⟩
theorem d_A_order_9 : gD m_A_order 9 (.iload_n 2) 1 10 := ⟨by decide +kernel, rfl⟩
theorem d_A_order_10 : gD m_A_order 10 (.ifCond .lt 9) 3 13 := ⟨by decide +kernel, rfl⟩
theorem d_A_order_13 : gD m_A_order 13 (.iload_n 2) 1 14 := ⟨by decide +kernel, rfl⟩
theorem d_A_order_14 : gD m_A_order 14 (.bipush 64) 2 16 := ⟨by decide +kernel, rfl⟩
theorem d_A_order_16 : gD m_A_order 16 (.if_icmp .le 13) 3 19 := ⟨by decide +kernel, rfl⟩
theorem d_A_order_19 : gD m_A_order 19 (.new 129) 3 22 := ⟨by decide +kernel, rfl⟩
theorem d_A_order_22 : gD m_A_order 22 .dup 1 23 := ⟨by decide +kernel, rfl⟩
theorem d_A_order_23 : gD m_A_order 23 (.ldc 137) 2 25 := ⟨by decide +kernel, rfl⟩
theorem d_A_order_25 : gD m_A_order 25 (.invokespecial 133) 3 28 := ⟨by decide +kernel, rfl⟩
theorem d_A_order_28 : gD m_A_order 28 .athrow 1 29 := ⟨by decide +kernel, rfl⟩
theorem d_A_order_29 : gD m_A_order 29 (.aload_n 0) 1 30 := ⟨by decide +kernel, rfl⟩
theorem d_A_order_30 : gD m_A_order 30 (.iload_n 1) 1 31 := ⟨by decide +kernel, rfl⟩
theorem d_A_order_31 : gD m_A_order 31 (.putfield 78) 3 34 := ⟨by decide +kernel, rfl⟩
theorem d_A_order_34 : gD m_A_order 34 (.aload_n 0) 1 35 := ⟨by decide +kernel, rfl⟩
theorem d_A_order_35 : gD m_A_order 35 (.iload_n 2) 1 36 := ⟨by decide +kernel, rfl⟩
theorem d_A_order_36 : gD m_A_order 36 (.putfield 82) 3 39 := ⟨by decide +kernel, rfl⟩
theorem d_A_order_39 : gD m_A_order 39 .return_ 1 40 := ⟨by decide +kernel, rfl⟩
theorem d_L_answer_0 : gD m_L_answer 0 (.aload_n 2) 1 1 := ⟨by decide +kernel, rfl⟩
theorem d_L_answer_1 : gD m_L_answer 1 (.iconst 0) 1 2 := ⟨by decide +kernel, rfl⟩
theorem d_L_answer_2 : gD m_L_answer 2 (.aload_n 0) 1 3 := ⟨by decide +kernel, rfl⟩
theorem d_L_answer_3 : gD m_L_answer 3 (.iload_n 1) 1 4 := ⟨by decide +kernel, rfl⟩
theorem d_L_answer_4 : gD m_L_answer 4 (.invokevirtual 39) 3 7 := ⟨by decide +kernel, rfl⟩
theorem d_L_answer_7 : gD m_L_answer 7 .i2l 1 8 := ⟨by decide +kernel, rfl⟩
theorem d_L_answer_8 : gD m_L_answer 8 .lastore 1 9 := ⟨by decide +kernel, rfl⟩
theorem d_L_answer_9 : gD m_L_answer 9 (.goto 6) 3 12 := ⟨by decide +kernel, rfl⟩
theorem d_L_answer_12 : gD m_L_answer 12 (.astore_n 3) 1 13 := ⟨by decide +kernel, rfl⟩
theorem d_L_answer_13 : gD m_L_answer 13 (.iconst 1) 1 14 := ⟨by decide +kernel, rfl⟩
theorem d_L_answer_14 : gD m_L_answer 14 .ireturn 1 15 := ⟨by decide +kernel, rfl⟩
theorem d_L_answer_15 : gD m_L_answer 15 (.iconst 0) 1 16 := ⟨by decide +kernel, rfl⟩
theorem d_L_answer_16 : gD m_L_answer 16 .ireturn 1 17 := ⟨by decide +kernel, rfl⟩
theorem d_A_answer_0 : gD m_A_answer 0 (.iload_n 1) 1 1 := ⟨by decide +kernel, rfl⟩
theorem d_A_answer_1 : gD m_A_answer 1 (.ifCond .lt 14) 3 4 := ⟨by decide +kernel, rfl⟩
theorem d_A_answer_4 : gD m_A_answer 4 (.iload_n 1) 1 5 := ⟨by decide +kernel, rfl⟩
theorem d_A_answer_5 : gD m_A_answer 5 (.aload_n 0) 1 6 := ⟨by decide +kernel, rfl⟩
theorem d_A_answer_6 : gD m_A_answer 6 (.getfield 74) 3 9 := ⟨by decide +kernel, rfl⟩
theorem d_A_answer_9 : gD m_A_answer 9 (.getfield 152) 3 12 := ⟨by decide +kernel, rfl⟩
theorem d_A_answer_12 : gD m_A_answer 12 (.if_icmp .lt 13) 3 15 := ⟨by decide +kernel, rfl⟩
theorem d_A_answer_15 : gD m_A_answer 15 (.new 155) 3 18 := ⟨by decide +kernel, rfl⟩
theorem d_A_answer_18 : gD m_A_answer 18 .dup 1 19 := ⟨by decide +kernel, rfl⟩
theorem d_A_answer_19 : gD m_A_answer 19 (.ldc 157) 2 21 := ⟨by decide +kernel, rfl⟩
theorem d_A_answer_21 : gD m_A_answer 21 (.invokespecial 159) 3 24 := ⟨by decide +kernel, rfl⟩
theorem d_A_answer_24 : gD m_A_answer 24 .athrow 1 25 := ⟨by decide +kernel, rfl⟩
theorem d_A_answer_25 : gD m_A_answer 25 (.aload_n 0) 1 26 := ⟨by decide +kernel, rfl⟩
theorem d_A_answer_26 : gD m_A_answer 26 (.getfield 74) 3 29 := ⟨by decide +kernel, rfl⟩
theorem d_A_answer_29 : gD m_A_answer 29 (.getfield 160) 3 32 := ⟨by decide +kernel, rfl⟩
theorem d_A_answer_32 : gD m_A_answer 32 (.iload_n 1) 1 33 := ⟨by decide +kernel, rfl⟩
theorem d_A_answer_33 : gD m_A_answer 33 .iaload 1 34 := ⟨by decide +kernel, rfl⟩
theorem d_A_answer_34 : gD m_A_answer 34 .ireturn 1 35 := ⟨by decide +kernel, rfl⟩
theorem d_L_last_0 : gD m_L_last 0 (.aload_n 2) 1 1 := ⟨by decide +kernel, rfl⟩
theorem d_L_last_1 : gD m_L_last 1 (.iconst 0) 1 2 := ⟨by decide +kernel, rfl⟩
theorem d_L_last_2 : gD m_L_last 2 (.aload_n 0) 1 3 := ⟨by decide +kernel, rfl⟩
theorem d_L_last_3 : gD m_L_last 3 (.iload_n 1) 1 4 := ⟨by decide +kernel, rfl⟩
theorem d_L_last_4 : gD m_L_last 4 (.invokevirtual 43) 3 7 := ⟨by decide +kernel, rfl⟩
theorem d_L_last_7 : gD m_L_last 7 .i2l 1 8 := ⟨by decide +kernel, rfl⟩
theorem d_L_last_8 : gD m_L_last 8 .lastore 1 9 := ⟨by decide +kernel, rfl⟩
theorem d_L_last_9 : gD m_L_last 9 (.goto 6) 3 12 := ⟨by decide +kernel, rfl⟩
theorem d_L_last_12 : gD m_L_last 12 (.astore_n 3) 1 13 := ⟨by decide +kernel, rfl⟩
theorem d_L_last_13 : gD m_L_last 13 (.iconst 1) 1 14 := ⟨by decide +kernel, rfl⟩
theorem d_L_last_14 : gD m_L_last 14 .ireturn 1 15 := ⟨by decide +kernel, rfl⟩
theorem d_L_last_15 : gD m_L_last 15 (.iconst 0) 1 16 := ⟨by decide +kernel, rfl⟩
theorem d_L_last_16 : gD m_L_last 16 .ireturn 1 17 := ⟨by decide +kernel, rfl⟩
theorem d_A_last_0 : gD m_A_last 0 (.iload_n 1) 1 1 := ⟨by decide +kernel, rfl⟩
theorem d_A_last_1 : gD m_A_last 1 (.tableswitch 57 0 3 #[31, 36, 41, 49]) 31 32 := ⟨by decide +kernel, rfl⟩
theorem d_A_last_32 : gD m_A_last 32 (.aload_n 0) 1 33 := ⟨by decide +kernel, rfl⟩
theorem d_A_last_33 : gD m_A_last 33 (.getfield 88) 3 36 := ⟨by decide +kernel, rfl⟩
theorem d_A_last_36 : gD m_A_last 36 .ireturn 1 37 := ⟨by decide +kernel, rfl⟩
theorem d_A_last_37 : gD m_A_last 37 (.aload_n 0) 1 38 := ⟨by decide +kernel, rfl⟩
theorem d_A_last_38 : gD m_A_last 38 (.getfield 164) 3 41 := ⟨by decide +kernel, rfl⟩
theorem d_A_last_41 : gD m_A_last 41 .ireturn 1 42 := ⟨by decide +kernel, rfl⟩
theorem d_A_last_42 : gD m_A_last 42 (.aload_n 0) 1 43 := ⟨by decide +kernel, rfl⟩
theorem d_A_last_43 : gD m_A_last 43 (.getfield 44) 3 46 := ⟨by decide +kernel, rfl⟩
theorem d_A_last_46 : gD m_A_last 46 (.getfield 167) 3 49 := ⟨by decide +kernel, rfl⟩
theorem d_A_last_49 : gD m_A_last 49 .ireturn 1 50 := ⟨by decide +kernel, rfl⟩
theorem d_A_last_50 : gD m_A_last 50 (.aload_n 0) 1 51 := ⟨by decide +kernel, rfl⟩
theorem d_A_last_51 : gD m_A_last 51 (.getfield 44) 3 54 := ⟨by decide +kernel, rfl⟩
theorem d_A_last_54 : gD m_A_last 54 (.getfield 170) 3 57 := ⟨by decide +kernel, rfl⟩
theorem d_A_last_57 : gD m_A_last 57 .ireturn 1 58 := ⟨by decide +kernel, rfl⟩
theorem d_A_last_58 : gD m_A_last 58 (.new 155) 3 61 := ⟨by decide +kernel, rfl⟩
theorem d_A_last_61 : gD m_A_last 61 .dup 1 62 := ⟨by decide +kernel, rfl⟩
theorem d_A_last_62 : gD m_A_last 62 (.ldc 173) 2 64 := ⟨by decide +kernel, rfl⟩
theorem d_A_last_64 : gD m_A_last 64 (.invokespecial 159) 3 67 := ⟨by decide +kernel, rfl⟩
theorem d_A_last_67 : gD m_A_last 67 .athrow 1 68 := ⟨by decide +kernel, rfl⟩
theorem d_L_cost_0 : gD m_L_cost 0 (.aload_n 2) 1 1 := ⟨by decide +kernel, rfl⟩
theorem d_L_cost_1 : gD m_L_cost 1 (.iconst 0) 1 2 := ⟨by decide +kernel, rfl⟩
theorem d_L_cost_2 : gD m_L_cost 2 (.aload_n 0) 1 3 := ⟨by decide +kernel, rfl⟩
theorem d_L_cost_3 : gD m_L_cost 3 (.iload_n 1) 1 4 := ⟨by decide +kernel, rfl⟩
theorem d_L_cost_4 : gD m_L_cost 4 (.invokevirtual 46) 3 7 := ⟨by decide +kernel, rfl⟩
theorem d_L_cost_7 : gD m_L_cost 7 .i2l 1 8 := ⟨by decide +kernel, rfl⟩
theorem d_L_cost_8 : gD m_L_cost 8 .lastore 1 9 := ⟨by decide +kernel, rfl⟩
theorem d_L_cost_9 : gD m_L_cost 9 (.goto 6) 3 12 := ⟨by decide +kernel, rfl⟩
theorem d_L_cost_12 : gD m_L_cost 12 (.astore_n 3) 1 13 := ⟨by decide +kernel, rfl⟩
theorem d_L_cost_13 : gD m_L_cost 13 (.iconst 1) 1 14 := ⟨by decide +kernel, rfl⟩
theorem d_L_cost_14 : gD m_L_cost 14 .ireturn 1 15 := ⟨by decide +kernel, rfl⟩
theorem d_L_cost_15 : gD m_L_cost 15 (.iconst 0) 1 16 := ⟨by decide +kernel, rfl⟩
theorem d_L_cost_16 : gD m_L_cost 16 .ireturn 1 17 := ⟨by decide +kernel, rfl⟩
theorem d_A_cost_0 : gD m_A_cost 0 (.iload_n 1) 1 1 := ⟨by decide +kernel, rfl⟩
theorem d_A_cost_1 : gD m_A_cost 1 (.iconst (-1)) 1 2 := ⟨by decide +kernel, rfl⟩
theorem d_A_cost_2 : gD m_A_cost 2 (.if_icmp .eq 7) 3 5 := ⟨by decide +kernel, rfl⟩
theorem d_A_cost_5 : gD m_A_cost 5 (.iload_n 1) 1 6 := ⟨by decide +kernel, rfl⟩
theorem d_A_cost_6 : gD m_A_cost 6 (.invokestatic 175) 3 9 := ⟨by decide +kernel, rfl⟩
theorem d_A_cost_9 : gD m_A_cost 9 (.aload_n 0) 1 10 := ⟨by decide +kernel, rfl⟩
theorem d_A_cost_10 : gD m_A_cost 10 (.getfield 35) 3 13 := ⟨by decide +kernel, rfl⟩
theorem d_A_cost_13 : gD m_A_cost 13 (.aload_n 0) 1 14 := ⟨by decide +kernel, rfl⟩
theorem d_A_cost_14 : gD m_A_cost 14 (.getfield 12) 3 17 := ⟨by decide +kernel, rfl⟩
theorem d_A_cost_17 : gD m_A_cost 17 (.aload_n 0) 1 18 := ⟨by decide +kernel, rfl⟩
theorem d_A_cost_18 : gD m_A_cost 18 (.getfield 28) 3 21 := ⟨by decide +kernel, rfl⟩
theorem d_A_cost_21 : gD m_A_cost 21 (.aload_n 0) 1 22 := ⟨by decide +kernel, rfl⟩
theorem d_A_cost_22 : gD m_A_cost 22 (.getfield 19) 3 25 := ⟨by decide +kernel, rfl⟩
theorem d_A_cost_25 : gD m_A_cost 25 (.invokevirtual 178) 3 28 := ⟨by decide +kernel, rfl⟩
theorem d_A_cost_28 : gD m_A_cost 28 (.aload_n 0) 1 29 := ⟨by decide +kernel, rfl⟩
theorem d_A_cost_29 : gD m_A_cost 29 (.getfield 35) 3 32 := ⟨by decide +kernel, rfl⟩
theorem d_A_cost_32 : gD m_A_cost 32 (.iload_n 1) 1 33 := ⟨by decide +kernel, rfl⟩
theorem d_A_cost_33 : gD m_A_cost 33 (.invokevirtual 182) 3 36 := ⟨by decide +kernel, rfl⟩
theorem d_A_cost_36 : gD m_A_cost 36 .ireturn 1 37 := ⟨by decide +kernel, rfl⟩
theorem d_A_requireIndex_0 : gD m_A_requireIndex 0 (.iload_n 0) 1 1 := ⟨by decide +kernel, rfl⟩
theorem d_A_requireIndex_1 : gD m_A_requireIndex 1 (.ifCond .lt 9) 3 4 := ⟨by decide +kernel, rfl⟩
theorem d_A_requireIndex_4 : gD m_A_requireIndex 4 (.iload_n 0) 1 5 := ⟨by decide +kernel, rfl⟩
theorem d_A_requireIndex_5 : gD m_A_requireIndex 5 (.bipush 9) 2 7 := ⟨by decide +kernel, rfl⟩
theorem d_A_requireIndex_7 : gD m_A_requireIndex 7 (.if_icmp .lt 14) 3 10 := ⟨by decide +kernel, rfl⟩
theorem d_A_requireIndex_10 : gD m_A_requireIndex 10 (.new 155) 3 13 := ⟨by decide +kernel, rfl⟩
theorem d_A_requireIndex_13 : gD m_A_requireIndex 13 .dup 1 14 := ⟨by decide +kernel, rfl⟩
theorem d_A_requireIndex_14 : gD m_A_requireIndex 14 (.ldc_w 285) 3 17 := ⟨by decide +kernel, rfl⟩
theorem d_A_requireIndex_17 : gD m_A_requireIndex 17 (.invokespecial 159) 3 20 := ⟨by decide +kernel, rfl⟩
theorem d_A_requireIndex_20 : gD m_A_requireIndex 20 .athrow 1 21 := ⟨by decide +kernel, rfl⟩
theorem d_A_requireIndex_21 : gD m_A_requireIndex 21 .return_ 1 22 := ⟨by decide +kernel, rfl⟩
theorem d_L_index_0 : gD m_L_index 0 (.aload_n 3) 1 1 := ⟨by decide +kernel, rfl⟩
theorem d_L_index_1 : gD m_L_index 1 (.iconst 0) 1 2 := ⟨by decide +kernel, rfl⟩
theorem d_L_index_2 : gD m_L_index 2 (.aload_n 0) 1 3 := ⟨by decide +kernel, rfl⟩
theorem d_L_index_3 : gD m_L_index 3 (.iload_n 1) 1 4 := ⟨by decide +kernel, rfl⟩
theorem d_L_index_4 : gD m_L_index 4 (.iload_n 2) 1 5 := ⟨by decide +kernel, rfl⟩
theorem d_L_index_5 : gD m_L_index 5 (.invokevirtual 49) 3 8 := ⟨by decide +kernel, rfl⟩
theorem d_L_index_8 : gD m_L_index 8 .i2l 1 9 := ⟨by decide +kernel, rfl⟩
theorem d_L_index_9 : gD m_L_index 9 .lastore 1 10 := ⟨by decide +kernel, rfl⟩
theorem d_L_index_10 : gD m_L_index 10 (.goto 7) 3 13 := ⟨by decide +kernel, rfl⟩
theorem d_L_index_13 : gD m_L_index 13 (.astore 4) 2 15 := ⟨by decide +kernel, rfl⟩
theorem d_L_index_15 : gD m_L_index 15 (.iconst 1) 1 16 := ⟨by decide +kernel, rfl⟩
theorem d_L_index_16 : gD m_L_index 16 .ireturn 1 17 := ⟨by decide +kernel, rfl⟩
theorem d_L_index_17 : gD m_L_index 17 (.iconst 0) 1 18 := ⟨by decide +kernel, rfl⟩
theorem d_L_index_18 : gD m_L_index 18 .ireturn 1 19 := ⟨by decide +kernel, rfl⟩
theorem d_A_index_0 : gD m_A_index 0 (.iload_n 1) 1 1 := ⟨by decide +kernel, rfl⟩
theorem d_A_index_1 : gD m_A_index 1 (.invokestatic 175) 3 4 := ⟨by decide +kernel, rfl⟩
theorem d_A_index_4 : gD m_A_index 4 (.iload_n 2) 1 5 := ⟨by decide +kernel, rfl⟩
theorem d_A_index_5 : gD m_A_index 5 (.tableswitch 75 0 3 #[31, 41, 49, 57]) 31 36 := ⟨by decide +kernel, rfl⟩
theorem d_A_index_36 : gD m_A_index 36 (.aload_n 0) 1 37 := ⟨by decide +kernel, rfl⟩
theorem d_A_index_37 : gD m_A_index 37 (.getfield 67) 3 40 := ⟨by decide +kernel, rfl⟩
theorem d_A_index_40 : gD m_A_index 40 (.getfield 185) 3 43 := ⟨by decide +kernel, rfl⟩
theorem d_A_index_43 : gD m_A_index 43 (.iload_n 1) 1 44 := ⟨by decide +kernel, rfl⟩
theorem d_A_index_44 : gD m_A_index 44 .iaload 1 45 := ⟨by decide +kernel, rfl⟩
theorem d_A_index_45 : gD m_A_index 45 .ireturn 1 46 := ⟨by decide +kernel, rfl⟩
theorem d_A_index_46 : gD m_A_index 46 (.aload_n 0) 1 47 := ⟨by decide +kernel, rfl⟩
theorem d_A_index_47 : gD m_A_index 47 (.getfield 12) 3 50 := ⟨by decide +kernel, rfl⟩
theorem d_A_index_50 : gD m_A_index 50 (.invokevirtual 188) 3 53 := ⟨by decide +kernel, rfl⟩
theorem d_A_index_53 : gD m_A_index 53 .ireturn 1 54 := ⟨by decide +kernel, rfl⟩
theorem d_A_index_54 : gD m_A_index 54 (.aload_n 0) 1 55 := ⟨by decide +kernel, rfl⟩
theorem d_A_index_55 : gD m_A_index 55 (.getfield 12) 3 58 := ⟨by decide +kernel, rfl⟩
theorem d_A_index_58 : gD m_A_index 58 (.invokevirtual 192) 3 61 := ⟨by decide +kernel, rfl⟩
theorem d_A_index_61 : gD m_A_index 61 .ireturn 1 62 := ⟨by decide +kernel, rfl⟩
theorem d_A_index_62 : gD m_A_index 62 (.aload_n 0) 1 63 := ⟨by decide +kernel, rfl⟩
theorem d_A_index_63 : gD m_A_index 63 (.getfield 12) 3 66 := ⟨by decide +kernel, rfl⟩
theorem d_A_index_66 : gD m_A_index 66 (.getstatic 195) 3 69 := ⟨by decide +kernel, rfl⟩
theorem d_A_index_69 : gD m_A_index 69 (.iload_n 1) 1 70 := ⟨by decide +kernel, rfl⟩
theorem d_A_index_70 : gD m_A_index 70 .iaload 1 71 := ⟨by decide +kernel, rfl⟩
theorem d_A_index_71 : gD m_A_index 71 (.getstatic 198) 3 74 := ⟨by decide +kernel, rfl⟩
theorem d_A_index_74 : gD m_A_index 74 (.iload_n 1) 1 75 := ⟨by decide +kernel, rfl⟩
end
section
/-! decode rows (wip/emit.py) -/
theorem d_A_index_75 : gD m_A_index 75 .iaload 1 76 := ⟨by decide +kernel, rfl⟩
theorem d_A_index_76 : gD m_A_index 76 (.invokevirtual 201) 3 79 := ⟨by decide +kernel, rfl⟩
theorem d_A_index_79 : gD m_A_index 79 .ireturn 1 80 := ⟨by decide +kernel, rfl⟩
theorem d_A_index_80 : gD m_A_index 80 (.new 155) 3 83 := ⟨by decide +kernel, rfl⟩
theorem d_A_index_83 : gD m_A_index 83 .dup 1 84 := ⟨by decide +kernel, rfl⟩
theorem d_A_index_84 : gD m_A_index 84 (.ldc 204) 2 86 := ⟨by decide +kernel, rfl⟩
theorem d_A_index_86 : gD m_A_index 86 (.invokespecial 159) 3 89 := ⟨by decide +kernel, rfl⟩
theorem d_A_index_89 : gD m_A_index 89 .athrow 1 90 := ⟨by decide +kernel, rfl⟩
theorem d_T_firstEntry_0 : gD m_T_firstEntry 0 (.iconst (-1)) 1 1 := ⟨by decide +kernel, rfl⟩
theorem d_T_firstEntry_1 : gD m_T_firstEntry 1 (.istore_n 3) 1 2 := ⟨by decide +kernel, rfl⟩
theorem d_T_firstEntry_2 : gD m_T_firstEntry 2 (.iconst 0) 1 3 := ⟨by decide +kernel, rfl⟩
theorem d_T_firstEntry_3 : gD m_T_firstEntry 3 (.istore 4) 2 5 := ⟨by decide +kernel, rfl⟩
theorem d_T_firstEntry_5 : gD m_T_firstEntry 5 (.iload 4) 2 7 := ⟨by decide +kernel, rfl⟩
theorem d_T_firstEntry_7 : gD m_T_firstEntry 7 (.aload_n 0) 1 8 := ⟨by decide +kernel, rfl⟩
theorem d_T_firstEntry_8 : gD m_T_firstEntry 8 (.getfield 19) 3 11 := ⟨by decide +kernel, rfl⟩
theorem d_T_firstEntry_11 : gD m_T_firstEntry 11 (.if_icmp .ge 39) 3 14 := ⟨by decide +kernel, rfl⟩
theorem d_T_firstEntry_14 : gD m_T_firstEntry 14 (.aload_n 0) 1 15 := ⟨by decide +kernel, rfl⟩
theorem d_T_firstEntry_15 : gD m_T_firstEntry 15 (.getfield 15) 3 18 := ⟨by decide +kernel, rfl⟩
theorem d_T_firstEntry_18 : gD m_T_firstEntry 18 (.iload 4) 2 20 := ⟨by decide +kernel, rfl⟩
theorem d_T_firstEntry_20 : gD m_T_firstEntry 20 .baload 1 21 := ⟨by decide +kernel, rfl⟩
theorem d_T_firstEntry_21 : gD m_T_firstEntry 21 (.ifCond .eq 23) 3 24 := ⟨by decide +kernel, rfl⟩
theorem d_T_firstEntry_24 : gD m_T_firstEntry 24 (.iload_n 3) 1 25 := ⟨by decide +kernel, rfl⟩
theorem d_T_firstEntry_25 : gD m_T_firstEntry 25 (.iconst (-1)) 1 26 := ⟨by decide +kernel, rfl⟩
theorem d_T_firstEntry_26 : gD m_T_firstEntry 26 (.if_icmp .eq 15) 3 29 := ⟨by decide +kernel, rfl⟩
theorem d_T_firstEntry_29 : gD m_T_firstEntry 29 (.aload_n 0) 1 30 := ⟨by decide +kernel, rfl⟩
theorem d_T_firstEntry_30 : gD m_T_firstEntry 30 (.iload_n 3) 1 31 := ⟨by decide +kernel, rfl⟩
theorem d_T_firstEntry_31 : gD m_T_firstEntry 31 (.iload 4) 2 33 := ⟨by decide +kernel, rfl⟩
theorem d_T_firstEntry_33 : gD m_T_firstEntry 33 (.iload_n 1) 1 34 := ⟨by decide +kernel, rfl⟩
theorem d_T_firstEntry_34 : gD m_T_firstEntry 34 (.iload_n 2) 1 35 := ⟨by decide +kernel, rfl⟩
theorem d_T_firstEntry_35 : gD m_T_firstEntry 35 (.invokevirtual 47) 3 38 := ⟨by decide +kernel, rfl⟩
theorem d_T_firstEntry_38 : gD m_T_firstEntry 38 (.ifCond .eq 6) 3 41 := ⟨by decide +kernel, rfl⟩
theorem d_T_firstEntry_41 : gD m_T_firstEntry 41 (.iload 4) 2 43 := ⟨by decide +kernel, rfl⟩
theorem d_T_firstEntry_43 : gD m_T_firstEntry 43 (.istore_n 3) 1 44 := ⟨by decide +kernel, rfl⟩
theorem d_T_firstEntry_44 : gD m_T_firstEntry 44 (.iinc 4 1) 3 47 := ⟨by decide +kernel, rfl⟩
theorem d_T_firstEntry_47 : gD m_T_firstEntry 47 (.goto (-42)) 3 50 := ⟨by decide +kernel, rfl⟩
theorem d_T_firstEntry_50 : gD m_T_firstEntry 50 (.iload_n 3) 1 51 := ⟨by decide +kernel, rfl⟩
theorem d_T_firstEntry_51 : gD m_T_firstEntry 51 .ireturn 1 52 := ⟨by decide +kernel, rfl⟩
theorem d_L_shape_0 : gD m_L_shape 0 (.aload_n 3) 1 1 := ⟨by decide +kernel, rfl⟩
theorem d_L_shape_1 : gD m_L_shape 1 (.iconst 0) 1 2 := ⟨by decide +kernel, rfl⟩
theorem d_L_shape_2 : gD m_L_shape 2 (.aload_n 0) 1 3 := ⟨by decide +kernel, rfl⟩
theorem d_L_shape_3 : gD m_L_shape 3 (.iload_n 1) 1 4 := ⟨by decide +kernel, rfl⟩
theorem d_L_shape_4 : gD m_L_shape 4 (.iload_n 2) 1 5 := ⟨by decide +kernel, rfl⟩
theorem d_L_shape_5 : gD m_L_shape 5 (.invokevirtual 52) 3 8 := ⟨by decide +kernel, rfl⟩
theorem d_L_shape_8 : gD m_L_shape 8 .i2l 1 9 := ⟨by decide +kernel, rfl⟩
theorem d_L_shape_9 : gD m_L_shape 9 .lastore 1 10 := ⟨by decide +kernel, rfl⟩
theorem d_L_shape_10 : gD m_L_shape 10 (.goto 7) 3 13 := ⟨by decide +kernel, rfl⟩
theorem d_L_shape_13 : gD m_L_shape 13 (.astore 4) 2 15 := ⟨by decide +kernel, rfl⟩
theorem d_L_shape_15 : gD m_L_shape 15 (.iconst 1) 1 16 := ⟨by decide +kernel, rfl⟩
theorem d_L_shape_16 : gD m_L_shape 16 .ireturn 1 17 := ⟨by decide +kernel, rfl⟩
theorem d_L_shape_17 : gD m_L_shape 17 (.iconst 0) 1 18 := ⟨by decide +kernel, rfl⟩
theorem d_L_shape_18 : gD m_L_shape 18 .ireturn 1 19 := ⟨by decide +kernel, rfl⟩
theorem d_A_shape_0 : gD m_A_shape 0 (.iload_n 1) 1 1 := ⟨by decide +kernel, rfl⟩
theorem d_A_shape_1 : gD m_A_shape 1 (.ifCond .lt 14) 3 4 := ⟨by decide +kernel, rfl⟩
theorem d_A_shape_4 : gD m_A_shape 4 (.iload_n 1) 1 5 := ⟨by decide +kernel, rfl⟩
theorem d_A_shape_5 : gD m_A_shape 5 (.aload_n 0) 1 6 := ⟨by decide +kernel, rfl⟩
theorem d_A_shape_6 : gD m_A_shape 6 (.getfield 51) 3 9 := ⟨by decide +kernel, rfl⟩
theorem d_A_shape_9 : gD m_A_shape 9 (.getfield 206) 3 12 := ⟨by decide +kernel, rfl⟩
theorem d_A_shape_12 : gD m_A_shape 12 (.if_icmp .lt 13) 3 15 := ⟨by decide +kernel, rfl⟩
theorem d_A_shape_15 : gD m_A_shape 15 (.new 155) 3 18 := ⟨by decide +kernel, rfl⟩
theorem d_A_shape_18 : gD m_A_shape 18 .dup 1 19 := ⟨by decide +kernel, rfl⟩
theorem d_A_shape_19 : gD m_A_shape 19 (.ldc 207) 2 21 := ⟨by decide +kernel, rfl⟩
theorem d_A_shape_21 : gD m_A_shape 21 (.invokespecial 159) 3 24 := ⟨by decide +kernel, rfl⟩
theorem d_A_shape_24 : gD m_A_shape 24 .athrow 1 25 := ⟨by decide +kernel, rfl⟩
theorem d_A_shape_25 : gD m_A_shape 25 (.aload_n 0) 1 26 := ⟨by decide +kernel, rfl⟩
theorem d_A_shape_26 : gD m_A_shape 26 (.getfield 51) 3 29 := ⟨by decide +kernel, rfl⟩
theorem d_A_shape_29 : gD m_A_shape 29 (.getfield 209) 3 32 := ⟨by decide +kernel, rfl⟩
theorem d_A_shape_32 : gD m_A_shape 32 (.iload_n 1) 1 33 := ⟨by decide +kernel, rfl⟩
theorem d_A_shape_33 : gD m_A_shape 33 .aaload 1 34 := ⟨by decide +kernel, rfl⟩
theorem d_A_shape_34 : gD m_A_shape 34 (.astore_n 3) 1 35 := ⟨by decide +kernel, rfl⟩
theorem d_A_shape_35 : gD m_A_shape 35 (.iload_n 2) 1 36 := ⟨by decide +kernel, rfl⟩
theorem d_A_shape_36 : gD m_A_shape 36 (.tableswitch 75 0 2 #[28, 33, 41]) 28 64 := ⟨by decide +kernel, rfl⟩
theorem d_A_shape_64 : gD m_A_shape 64 (.aload_n 3) 1 65 := ⟨by decide +kernel, rfl⟩
theorem d_A_shape_65 : gD m_A_shape 65 (.getfield 213) 3 68 := ⟨by decide +kernel, rfl⟩
theorem d_A_shape_68 : gD m_A_shape 68 .ireturn 1 69 := ⟨by decide +kernel, rfl⟩
theorem d_A_shape_69 : gD m_A_shape 69 (.aload_n 3) 1 70 := ⟨by decide +kernel, rfl⟩
theorem d_A_shape_70 : gD m_A_shape 70 (.getfield 218) 3 73 := ⟨by decide +kernel, rfl⟩
theorem d_A_shape_73 : gD m_A_shape 73 (.invokevirtual 221) 3 76 := ⟨by decide +kernel, rfl⟩
theorem d_A_shape_76 : gD m_A_shape 76 .ireturn 1 77 := ⟨by decide +kernel, rfl⟩
theorem d_A_shape_77 : gD m_A_shape 77 (.aload_n 3) 1 78 := ⟨by decide +kernel, rfl⟩
theorem d_A_shape_78 : gD m_A_shape 78 (.getfield 224) 3 81 := ⟨by decide +kernel, rfl⟩
theorem d_A_shape_81 : gD m_A_shape 81 (.aload_n 0) 1 82 := ⟨by decide +kernel, rfl⟩
theorem d_A_shape_82 : gD m_A_shape 82 (.getfield 12) 3 85 := ⟨by decide +kernel, rfl⟩
theorem d_A_shape_85 : gD m_A_shape 85 (.aload_n 0) 1 86 := ⟨by decide +kernel, rfl⟩
theorem d_A_shape_86 : gD m_A_shape 86 (.getfield 28) 3 89 := ⟨by decide +kernel, rfl⟩
theorem d_A_shape_89 : gD m_A_shape 89 (.aload_n 3) 1 90 := ⟨by decide +kernel, rfl⟩
theorem d_A_shape_90 : gD m_A_shape 90 (.getfield 218) 3 93 := ⟨by decide +kernel, rfl⟩
theorem d_A_shape_93 : gD m_A_shape 93 (.invokevirtual 178) 3 96 := ⟨by decide +kernel, rfl⟩
theorem d_A_shape_96 : gD m_A_shape 96 (.aload_n 3) 1 97 := ⟨by decide +kernel, rfl⟩
theorem d_A_shape_97 : gD m_A_shape 97 (.getfield 224) 3 100 := ⟨by decide +kernel, rfl⟩
theorem d_A_shape_100 : gD m_A_shape 100 (.aload_n 0) 1 101 := ⟨by decide +kernel, rfl⟩
theorem d_A_shape_101 : gD m_A_shape 101 (.getfield 67) 3 104 := ⟨by decide +kernel, rfl⟩
theorem d_A_shape_104 : gD m_A_shape 104 (.invokevirtual 225) 3 107 := ⟨by decide +kernel, rfl⟩
theorem d_A_shape_107 : gD m_A_shape 107 (.invokevirtual 228) 3 110 := ⟨by decide +kernel, rfl⟩
theorem d_A_shape_110 : gD m_A_shape 110 .ireturn 1 111 := ⟨by decide +kernel, rfl⟩
theorem d_A_shape_111 : gD m_A_shape 111 (.new 155) 3 114 := ⟨by decide +kernel, rfl⟩
theorem d_A_shape_114 : gD m_A_shape 114 .dup 1 115 := ⟨by decide +kernel, rfl⟩
theorem d_A_shape_115 : gD m_A_shape 115 (.ldc 231) 2 117 := ⟨by decide +kernel, rfl⟩
theorem d_A_shape_117 : gD m_A_shape 117 (.invokespecial 159) 3 120 := ⟨by decide +kernel, rfl⟩
theorem d_A_shape_120 : gD m_A_shape 120 .athrow 1 121 := ⟨by decide +kernel, rfl⟩
theorem d_L_budget_0 : gD m_L_budget 0 (.aload_n 0) 1 1 := ⟨by decide +kernel, rfl⟩
theorem d_L_budget_1 : gD m_L_budget 1 (.iload_n 1) 1 2 := ⟨by decide +kernel, rfl⟩
theorem d_L_budget_2 : gD m_L_budget 2 (.invokevirtual 55) 3 5 := ⟨by decide +kernel, rfl⟩
theorem d_L_budget_5 : gD m_L_budget 5 (.goto 6) 3 8 := ⟨by decide +kernel, rfl⟩
theorem d_L_budget_8 : gD m_L_budget 8 (.astore_n 2) 1 9 := ⟨by decide +kernel, rfl⟩
theorem d_L_budget_9 : gD m_L_budget 9 (.iconst 1) 1 10 := ⟨by decide +kernel, rfl⟩
theorem d_L_budget_10 : gD m_L_budget 10 .ireturn 1 11 := ⟨by decide +kernel, rfl⟩
theorem d_L_budget_11 : gD m_L_budget 11 (.iconst 0) 1 12 := ⟨by decide +kernel, rfl⟩
theorem d_L_budget_12 : gD m_L_budget 12 .ireturn 1 13 := ⟨by decide +kernel, rfl⟩
theorem d_A_budget_0 : gD m_A_budget 0 (.iload_n 1) 1 1 := ⟨by decide +kernel, rfl⟩
theorem d_A_budget_1 : gD m_A_budget 1 (.ifCond .lt 10) 3 4 := ⟨by decide +kernel, rfl⟩
theorem d_A_budget_4 : gD m_A_budget 4 (.iload_n 1) 1 5 := ⟨by decide +kernel, rfl⟩
theorem d_A_budget_5 : gD m_A_budget 5 (.sipush 200) 3 8 := ⟨by decide +kernel, rfl⟩
theorem d_A_budget_8 : gD m_A_budget 8 (.if_icmp .le 13) 3 11 := ⟨by decide +kernel, rfl⟩
theorem d_A_budget_11 : gD m_A_budget 11 (.new 129) 3 14 := ⟨by decide +kernel, rfl⟩
theorem d_A_budget_14 : gD m_A_budget 14 .dup 1 15 := ⟨by decide +kernel, rfl⟩
theorem d_A_budget_15 : gD m_A_budget 15 (.ldc 239) 2 17 := ⟨by decide +kernel, rfl⟩
theorem d_A_budget_17 : gD m_A_budget 17 (.invokespecial 133) 3 20 := ⟨by decide +kernel, rfl⟩
theorem d_A_budget_20 : gD m_A_budget 20 .athrow 1 21 := ⟨by decide +kernel, rfl⟩
theorem d_A_budget_21 : gD m_A_budget 21 (.aload_n 0) 1 22 := ⟨by decide +kernel, rfl⟩
theorem d_A_budget_22 : gD m_A_budget 22 (.iload_n 1) 1 23 := ⟨by decide +kernel, rfl⟩
theorem d_A_budget_23 : gD m_A_budget 23 (.putfield 85) 3 26 := ⟨by decide +kernel, rfl⟩
theorem d_A_budget_26 : gD m_A_budget 26 .return_ 1 27 := ⟨by decide +kernel, rfl⟩
theorem d_L_costOf_0 : gD m_L_costOf 0 (.aload_n 2) 1 1 := ⟨by decide +kernel, rfl⟩
theorem d_L_costOf_1 : gD m_L_costOf 1 (.iconst 0) 1 2 := ⟨by decide +kernel, rfl⟩
theorem d_L_costOf_2 : gD m_L_costOf 2 (.aload_n 0) 1 3 := ⟨by decide +kernel, rfl⟩
theorem d_L_costOf_3 : gD m_L_costOf 3 (.iload_n 1) 1 4 := ⟨by decide +kernel, rfl⟩
theorem d_L_costOf_4 : gD m_L_costOf 4 (.invokevirtual 58) 3 7 := ⟨by decide +kernel, rfl⟩
theorem d_L_costOf_7 : gD m_L_costOf 7 .lastore 1 8 := ⟨by decide +kernel, rfl⟩
theorem d_L_costOf_8 : gD m_L_costOf 8 (.goto 6) 3 11 := ⟨by decide +kernel, rfl⟩
theorem d_L_costOf_11 : gD m_L_costOf 11 (.astore_n 3) 1 12 := ⟨by decide +kernel, rfl⟩
theorem d_L_costOf_12 : gD m_L_costOf 12 (.iconst 1) 1 13 := ⟨by decide +kernel, rfl⟩
theorem d_L_costOf_13 : gD m_L_costOf 13 .ireturn 1 14 := ⟨by decide +kernel, rfl⟩
theorem d_L_costOf_14 : gD m_L_costOf 14 (.iconst 0) 1 15 := ⟨by decide +kernel, rfl⟩
theorem d_L_costOf_15 : gD m_L_costOf 15 .ireturn 1 16 := ⟨by decide +kernel, rfl⟩
theorem d_A_costOf_0 : gD m_A_costOf 0 (.iload_n 1) 1 1 := ⟨by decide +kernel, rfl⟩
theorem d_A_costOf_1 : gD m_A_costOf 1 (.ifCond .lt 10) 3 4 := ⟨by decide +kernel, rfl⟩
theorem d_A_costOf_4 : gD m_A_costOf 4 (.iload_n 1) 1 5 := ⟨by decide +kernel, rfl⟩
theorem d_A_costOf_5 : gD m_A_costOf 5 (.sipush 512) 3 8 := ⟨by decide +kernel, rfl⟩
theorem d_A_costOf_8 : gD m_A_costOf 8 (.if_icmp .lt 13) 3 11 := ⟨by decide +kernel, rfl⟩
theorem d_A_costOf_11 : gD m_A_costOf 11 (.new 129) 3 14 := ⟨by decide +kernel, rfl⟩
theorem d_A_costOf_14 : gD m_A_costOf 14 .dup 1 15 := ⟨by decide +kernel, rfl⟩
theorem d_A_costOf_15 : gD m_A_costOf 15 (.ldc 246) 2 17 := ⟨by decide +kernel, rfl⟩
theorem d_A_costOf_17 : gD m_A_costOf 17 (.invokespecial 133) 3 20 := ⟨by decide +kernel, rfl⟩
theorem d_A_costOf_20 : gD m_A_costOf 20 .athrow 1 21 := ⟨by decide +kernel, rfl⟩
theorem d_A_costOf_21 : gD m_A_costOf 21 (.aload_n 0) 1 22 := ⟨by decide +kernel, rfl⟩
theorem d_A_costOf_22 : gD m_A_costOf 22 (.getfield 60) 3 25 := ⟨by decide +kernel, rfl⟩
theorem d_A_costOf_25 : gD m_A_costOf 25 (.invokevirtual 241) 3 28 := ⟨by decide +kernel, rfl⟩
theorem d_A_costOf_28 : gD m_A_costOf 28 (.aload_n 0) 1 29 := ⟨by decide +kernel, rfl⟩
theorem d_A_costOf_29 : gD m_A_costOf 29 (.getfield 60) 3 32 := ⟨by decide +kernel, rfl⟩
theorem d_A_costOf_32 : gD m_A_costOf 32 (.iload_n 1) 1 33 := ⟨by decide +kernel, rfl⟩
theorem d_A_costOf_33 : gD m_A_costOf 33 (.invokevirtual 248) 3 36 := ⟨by decide +kernel, rfl⟩
theorem d_A_costOf_36 : gD m_A_costOf 36 .lreturn 1 37 := ⟨by decide +kernel, rfl⟩
theorem d_L_build_0 : gD m_L_build 0 (.aload_n 0) 1 1 := ⟨by decide +kernel, rfl⟩
theorem d_L_build_1 : gD m_L_build 1 (.iload_n 1) 1 2 := ⟨by decide +kernel, rfl⟩
theorem d_L_build_2 : gD m_L_build 2 (.invokevirtual 62) 3 5 := ⟨by decide +kernel, rfl⟩
theorem d_L_build_5 : gD m_L_build 5 (.goto 9) 3 8 := ⟨by decide +kernel, rfl⟩
theorem d_L_build_8 : gD m_L_build 8 (.astore_n 2) 1 9 := ⟨by decide +kernel, rfl⟩
theorem d_L_build_9 : gD m_L_build 9 (.iconst 1) 1 10 := ⟨by decide +kernel, rfl⟩
theorem d_L_build_10 : gD m_L_build 10 .ireturn 1 11 := ⟨by decide +kernel, rfl⟩
theorem d_L_build_11 : gD m_L_build 11 (.astore_n 2) 1 12 := ⟨by decide +kernel, rfl⟩
theorem d_L_build_12 : gD m_L_build 12 (.iconst 2) 1 13 := ⟨by decide +kernel, rfl⟩
theorem d_L_build_13 : gD m_L_build 13 .ireturn 1 14 := ⟨by decide +kernel, rfl⟩
theorem d_L_build_14 : gD m_L_build 14 (.iconst 0) 1 15 := ⟨by decide +kernel, rfl⟩
theorem d_L_build_15 : gD m_L_build 15 .ireturn 1 16 := ⟨by decide +kernel, rfl⟩
theorem d_A_build_0 : gD m_A_build 0 (.iload_n 1) 1 1 := ⟨by decide +kernel, rfl⟩
theorem d_A_build_1 : gD m_A_build 1 (.invokestatic 175) 3 4 := ⟨by decide +kernel, rfl⟩
theorem d_A_build_4 : gD m_A_build 4 (.aload_n 0) 1 5 := ⟨by decide +kernel, rfl⟩
theorem d_A_build_5 : gD m_A_build 5 (.getfield 67) 3 8 := ⟨by decide +kernel, rfl⟩
theorem d_A_build_8 : gD m_A_build 8 (.invokevirtual 252) 3 11 := ⟨by decide +kernel, rfl⟩
theorem d_A_build_11 : gD m_A_build 11 (.ifCond .ne 15) 3 14 := ⟨by decide +kernel, rfl⟩
theorem d_A_build_14 : gD m_A_build 14 (.aload_n 0) 1 15 := ⟨by decide +kernel, rfl⟩
theorem d_A_build_15 : gD m_A_build 15 (.getfield 67) 3 18 := ⟨by decide +kernel, rfl⟩
theorem d_A_build_18 : gD m_A_build 18 (.getfield 185) 3 21 := ⟨by decide +kernel, rfl⟩
theorem d_A_build_21 : gD m_A_build 21 (.iload_n 1) 1 22 := ⟨by decide +kernel, rfl⟩
theorem d_A_build_22 : gD m_A_build 22 .iaload 1 23 := ⟨by decide +kernel, rfl⟩
theorem d_A_build_23 : gD m_A_build 23 (.ifCond .eq 14) 3 26 := ⟨by decide +kernel, rfl⟩
theorem d_A_build_26 : gD m_A_build 26 (.new 255) 3 29 := ⟨by decide +kernel, rfl⟩
theorem d_A_build_29 : gD m_A_build 29 .dup 1 30 := ⟨by decide +kernel, rfl⟩
theorem d_A_build_30 : gD m_A_build 30 (.ldc_w 257) 3 33 := ⟨by decide +kernel, rfl⟩
theorem d_A_build_33 : gD m_A_build 33 (.invokespecial 259) 3 36 := ⟨by decide +kernel, rfl⟩
theorem d_A_build_36 : gD m_A_build 36 .athrow 1 37 := ⟨by decide +kernel, rfl⟩
theorem d_A_build_37 : gD m_A_build 37 (.aload_n 0) 1 38 := ⟨by decide +kernel, rfl⟩
theorem d_A_build_38 : gD m_A_build 38 (.getfield 67) 3 41 := ⟨by decide +kernel, rfl⟩
theorem d_A_build_41 : gD m_A_build 41 (.iload_n 1) 1 42 := ⟨by decide +kernel, rfl⟩
theorem d_A_build_42 : gD m_A_build 42 (.invokevirtual 260) 3 45 := ⟨by decide +kernel, rfl⟩
theorem d_A_build_45 : gD m_A_build 45 .return_ 1 46 := ⟨by decide +kernel, rfl⟩
theorem d_B_begin_0 : gD m_B_begin 0 (.aload_n 0) 1 1 := ⟨by decide +kernel, rfl⟩
theorem d_B_begin_1 : gD m_B_begin 1 (.getfield 9) 3 4 := ⟨by decide +kernel, rfl⟩
theorem d_B_begin_4 : gD m_B_begin 4 (.iload_n 1) 1 5 := ⟨by decide +kernel, rfl⟩
theorem d_B_begin_5 : gD m_B_begin 5 (.iconst 1) 1 6 := ⟨by decide +kernel, rfl⟩
theorem d_B_begin_6 : gD m_B_begin 6 .iastore 1 7 := ⟨by decide +kernel, rfl⟩
theorem d_B_begin_7 : gD m_B_begin 7 (.aload_n 0) 1 8 := ⟨by decide +kernel, rfl⟩
theorem d_B_begin_8 : gD m_B_begin 8 (.iload_n 1) 1 9 := ⟨by decide +kernel, rfl⟩
theorem d_B_begin_9 : gD m_B_begin 9 (.putfield 19) 3 12 := ⟨by decide +kernel, rfl⟩
theorem d_B_begin_12 : gD m_B_begin 12 (.aload_n 0) 1 13 := ⟨by decide +kernel, rfl⟩
theorem d_B_begin_13 : gD m_B_begin 13 (.iconst 0) 1 14 := ⟨by decide +kernel, rfl⟩
theorem d_B_begin_14 : gD m_B_begin 14 (.putfield 23) 3 17 := ⟨by decide +kernel, rfl⟩
theorem d_B_begin_17 : gD m_B_begin 17 (.aload_n 0) 1 18 := ⟨by decide +kernel, rfl⟩
theorem d_B_begin_18 : gD m_B_begin 18 (.iconst 0) 1 19 := ⟨by decide +kernel, rfl⟩
theorem d_B_begin_19 : gD m_B_begin 19 (.putfield 26) 3 22 := ⟨by decide +kernel, rfl⟩
theorem d_B_begin_22 : gD m_B_begin 22 (.aload_n 0) 1 23 := ⟨by decide +kernel, rfl⟩
theorem d_B_begin_23 : gD m_B_begin 23 (.invokevirtual 29) 3 26 := ⟨by decide +kernel, rfl⟩
theorem d_B_begin_26 : gD m_B_begin 26 .return_ 1 27 := ⟨by decide +kernel, rfl⟩
theorem d_B_finishIfDone_0 : gD m_B_finishIfDone 0 (.aload_n 0) 1 1 := ⟨by decide +kernel, rfl⟩
theorem d_B_finishIfDone_1 : gD m_B_finishIfDone 1 (.invokevirtual 32) 3 4 := ⟨by decide +kernel, rfl⟩
theorem d_B_finishIfDone_4 : gD m_B_finishIfDone 4 (.ifCond .eq 25) 3 7 := ⟨by decide +kernel, rfl⟩
theorem d_B_finishIfDone_7 : gD m_B_finishIfDone 7 (.aload_n 0) 1 8 := ⟨by decide +kernel, rfl⟩
theorem d_B_finishIfDone_8 : gD m_B_finishIfDone 8 (.invokevirtual 47) 3 11 := ⟨by decide +kernel, rfl⟩
theorem d_B_finishIfDone_11 : gD m_B_finishIfDone 11 (.ifCond .ne 18) 3 14 := ⟨by decide +kernel, rfl⟩
theorem d_B_finishIfDone_14 : gD m_B_finishIfDone 14 (.aload_n 0) 1 15 := ⟨by decide +kernel, rfl⟩
theorem d_B_finishIfDone_15 : gD m_B_finishIfDone 15 (.getfield 9) 3 18 := ⟨by decide +kernel, rfl⟩
theorem d_B_finishIfDone_18 : gD m_B_finishIfDone 18 (.aload_n 0) 1 19 := ⟨by decide +kernel, rfl⟩
theorem d_B_finishIfDone_19 : gD m_B_finishIfDone 19 (.getfield 19) 3 22 := ⟨by decide +kernel, rfl⟩
theorem d_B_finishIfDone_22 : gD m_B_finishIfDone 22 (.iconst 2) 1 23 := ⟨by decide +kernel, rfl⟩
theorem d_B_finishIfDone_23 : gD m_B_finishIfDone 23 .iastore 1 24 := ⟨by decide +kernel, rfl⟩
theorem d_B_finishIfDone_24 : gD m_B_finishIfDone 24 (.aload_n 0) 1 25 := ⟨by decide +kernel, rfl⟩
theorem d_B_finishIfDone_25 : gD m_B_finishIfDone 25 (.iconst (-1)) 1 26 := ⟨by decide +kernel, rfl⟩
theorem d_B_finishIfDone_26 : gD m_B_finishIfDone 26 (.putfield 19) 3 29 := ⟨by decide +kernel, rfl⟩
theorem d_B_finishIfDone_29 : gD m_B_finishIfDone 29 .return_ 1 30 := ⟨by decide +kernel, rfl⟩
theorem d_B_left_0 : gD m_B_left 0 (.aload_n 0) 1 1 := ⟨by decide +kernel, rfl⟩
theorem d_B_left_1 : gD m_B_left 1 (.getfield 15) 3 4 := ⟨by decide +kernel, rfl⟩
theorem d_B_left_4 : gD m_B_left 4 (.getfield 36) 3 7 := ⟨by decide +kernel, rfl⟩
theorem d_B_left_7 : gD m_B_left 7 (.aload_n 0) 1 8 := ⟨by decide +kernel, rfl⟩
theorem d_B_left_8 : gD m_B_left 8 (.getfield 23) 3 11 := ⟨by decide +kernel, rfl⟩
theorem d_B_left_11 : gD m_B_left 11 .isub 1 12 := ⟨by decide +kernel, rfl⟩
theorem d_B_left_12 : gD m_B_left 12 (.aload_n 0) 1 13 := ⟨by decide +kernel, rfl⟩
theorem d_B_left_13 : gD m_B_left 13 (.getfield 26) 3 16 := ⟨by decide +kernel, rfl⟩
theorem d_B_left_16 : gD m_B_left 16 .iadd 1 17 := ⟨by decide +kernel, rfl⟩
theorem d_B_left_17 : gD m_B_left 17 .ireturn 1 18 := ⟨by decide +kernel, rfl⟩
theorem d_L_work_0 : gD m_L_work 0 (.aload_n 2) 1 1 := ⟨by decide +kernel, rfl⟩
theorem d_L_work_1 : gD m_L_work 1 (.iconst 0) 1 2 := ⟨by decide +kernel, rfl⟩
theorem d_L_work_2 : gD m_L_work 2 (.aload_n 0) 1 3 := ⟨by decide +kernel, rfl⟩
theorem d_L_work_3 : gD m_L_work 3 (.iload_n 1) 1 4 := ⟨by decide +kernel, rfl⟩
theorem d_L_work_4 : gD m_L_work 4 (.invokevirtual 67) 3 7 := ⟨by decide +kernel, rfl⟩
theorem d_L_work_7 : gD m_L_work 7 .i2l 1 8 := ⟨by decide +kernel, rfl⟩
theorem d_L_work_8 : gD m_L_work 8 .lastore 1 9 := ⟨by decide +kernel, rfl⟩
theorem d_L_work_9 : gD m_L_work 9 (.goto 9) 3 12 := ⟨by decide +kernel, rfl⟩
theorem d_L_work_12 : gD m_L_work 12 (.astore_n 3) 1 13 := ⟨by decide +kernel, rfl⟩
theorem d_L_work_13 : gD m_L_work 13 (.iconst 1) 1 14 := ⟨by decide +kernel, rfl⟩
theorem d_L_work_14 : gD m_L_work 14 .ireturn 1 15 := ⟨by decide +kernel, rfl⟩
theorem d_L_work_15 : gD m_L_work 15 (.astore_n 3) 1 16 := ⟨by decide +kernel, rfl⟩
theorem d_L_work_16 : gD m_L_work 16 (.iconst 2) 1 17 := ⟨by decide +kernel, rfl⟩
theorem d_L_work_17 : gD m_L_work 17 .ireturn 1 18 := ⟨by decide +kernel, rfl⟩
theorem d_L_work_18 : gD m_L_work 18 (.iconst 0) 1 19 := ⟨by decide +kernel, rfl⟩
theorem d_L_work_19 : gD m_L_work 19 .ireturn 1 20 := ⟨by decide +kernel, rfl⟩
theorem d_A_work_0 : gD m_A_work 0 (.iload_n 1) 1 1 := ⟨by decide +kernel, rfl⟩
theorem d_A_work_1 : gD m_A_work 1 (.iconst 1) 1 2 := ⟨by decide +kernel, rfl⟩
theorem d_A_work_2 : gD m_A_work 2 (.if_icmp .lt 9) 3 5 := ⟨by decide +kernel, rfl⟩
theorem d_A_work_5 : gD m_A_work 5 (.iload_n 1) 1 6 := ⟨by decide +kernel, rfl⟩
theorem d_A_work_6 : gD m_A_work 6 (.bipush 64) 2 8 := ⟨by decide +kernel, rfl⟩
theorem d_A_work_8 : gD m_A_work 8 (.if_icmp .le 14) 3 11 := ⟨by decide +kernel, rfl⟩
theorem d_A_work_11 : gD m_A_work 11 (.new 129) 3 14 := ⟨by decide +kernel, rfl⟩
theorem d_A_work_14 : gD m_A_work 14 .dup 1 15 := ⟨by decide +kernel, rfl⟩
theorem d_A_work_15 : gD m_A_work 15 (.ldc_w 263) 3 18 := ⟨by decide +kernel, rfl⟩
theorem d_A_work_18 : gD m_A_work 18 (.invokespecial 133) 3 21 := ⟨by decide +kernel, rfl⟩
theorem d_A_work_21 : gD m_A_work 21 .athrow 1 22 := ⟨by decide +kernel, rfl⟩
theorem d_A_work_22 : gD m_A_work 22 (.aload_n 0) 1 23 := ⟨by decide +kernel, rfl⟩
theorem d_A_work_23 : gD m_A_work 23 (.getfield 67) 3 26 := ⟨by decide +kernel, rfl⟩
theorem d_A_work_26 : gD m_A_work 26 (.invokevirtual 252) 3 29 := ⟨by decide +kernel, rfl⟩
theorem d_A_work_29 : gD m_A_work 29 (.ifCond .ne 14) 3 32 := ⟨by decide +kernel, rfl⟩
theorem d_A_work_32 : gD m_A_work 32 (.new 255) 3 35 := ⟨by decide +kernel, rfl⟩
theorem d_A_work_35 : gD m_A_work 35 .dup 1 36 := ⟨by decide +kernel, rfl⟩
theorem d_A_work_36 : gD m_A_work 36 (.ldc_w 265) 3 39 := ⟨by decide +kernel, rfl⟩
theorem d_A_work_39 : gD m_A_work 39 (.invokespecial 259) 3 42 := ⟨by decide +kernel, rfl⟩
theorem d_A_work_42 : gD m_A_work 42 .athrow 1 43 := ⟨by decide +kernel, rfl⟩
theorem d_A_work_43 : gD m_A_work 43 (.aload_n 0) 1 44 := ⟨by decide +kernel, rfl⟩
theorem d_A_work_44 : gD m_A_work 44 (.getfield 67) 3 47 := ⟨by decide +kernel, rfl⟩
theorem d_A_work_47 : gD m_A_work 47 (.iload_n 1) 1 48 := ⟨by decide +kernel, rfl⟩
theorem d_A_work_48 : gD m_A_work 48 (.invokevirtual 267) 3 51 := ⟨by decide +kernel, rfl⟩
theorem d_A_work_51 : gD m_A_work 51 .ireturn 1 52 := ⟨by decide +kernel, rfl⟩
theorem d_B_handle_0 : gD m_B_handle 0 (.iload_n 1) 1 1 := ⟨by decide +kernel, rfl⟩
theorem d_B_handle_1 : gD m_B_handle 1 (.aload_n 0) 1 2 := ⟨by decide +kernel, rfl⟩
theorem d_B_handle_2 : gD m_B_handle 2 (.getfield 15) 3 5 := ⟨by decide +kernel, rfl⟩
theorem d_B_handle_5 : gD m_B_handle 5 (.getfield 36) 3 8 := ⟨by decide +kernel, rfl⟩
theorem d_B_handle_8 : gD m_B_handle 8 (.aload_n 0) 1 9 := ⟨by decide +kernel, rfl⟩
theorem d_B_handle_9 : gD m_B_handle 9 (.getfield 23) 3 12 := ⟨by decide +kernel, rfl⟩
theorem d_B_handle_12 : gD m_B_handle 12 .isub 1 13 := ⟨by decide +kernel, rfl⟩
theorem d_B_handle_13 : gD m_B_handle 13 (.invokestatic 41) 3 16 := ⟨by decide +kernel, rfl⟩
theorem d_B_handle_16 : gD m_B_handle 16 (.istore_n 2) 1 17 := ⟨by decide +kernel, rfl⟩
theorem d_B_handle_17 : gD m_B_handle 17 (.aload_n 0) 1 18 := ⟨by decide +kernel, rfl⟩
theorem d_B_handle_18 : gD m_B_handle 18 .dup 1 19 := ⟨by decide +kernel, rfl⟩
theorem d_B_handle_19 : gD m_B_handle 19 (.getfield 23) 3 22 := ⟨by decide +kernel, rfl⟩
theorem d_B_handle_22 : gD m_B_handle 22 (.iload_n 2) 1 23 := ⟨by decide +kernel, rfl⟩
theorem d_B_handle_23 : gD m_B_handle 23 .iadd 1 24 := ⟨by decide +kernel, rfl⟩
theorem d_B_handle_24 : gD m_B_handle 24 (.putfield 23) 3 27 := ⟨by decide +kernel, rfl⟩
theorem d_B_handle_27 : gD m_B_handle 27 (.aload_n 0) 1 28 := ⟨by decide +kernel, rfl⟩
theorem d_B_handle_28 : gD m_B_handle 28 .dup 1 29 := ⟨by decide +kernel, rfl⟩
theorem d_B_handle_29 : gD m_B_handle 29 (.getfield 26) 3 32 := ⟨by decide +kernel, rfl⟩
theorem d_B_handle_32 : gD m_B_handle 32 (.iload_n 1) 1 33 := ⟨by decide +kernel, rfl⟩
theorem d_B_handle_33 : gD m_B_handle 33 (.iload_n 2) 1 34 := ⟨by decide +kernel, rfl⟩
theorem d_B_handle_34 : gD m_B_handle 34 .isub 1 35 := ⟨by decide +kernel, rfl⟩
theorem d_B_handle_35 : gD m_B_handle 35 (.aload_n 0) 1 36 := ⟨by decide +kernel, rfl⟩
theorem d_B_handle_36 : gD m_B_handle 36 (.getfield 26) 3 39 := ⟨by decide +kernel, rfl⟩
theorem d_B_handle_39 : gD m_B_handle 39 (.invokestatic 41) 3 42 := ⟨by decide +kernel, rfl⟩
theorem d_B_handle_42 : gD m_B_handle 42 .isub 1 43 := ⟨by decide +kernel, rfl⟩
theorem d_B_handle_43 : gD m_B_handle 43 (.putfield 26) 3 46 := ⟨by decide +kernel, rfl⟩
theorem d_B_handle_46 : gD m_B_handle 46 (.aload_n 0) 1 47 := ⟨by decide +kernel, rfl⟩
theorem d_B_handle_47 : gD m_B_handle 47 (.invokevirtual 29) 3 50 := ⟨by decide +kernel, rfl⟩
theorem d_B_handle_50 : gD m_B_handle 50 (.aload_n 0) 1 51 := ⟨by decide +kernel, rfl⟩
theorem d_B_handle_51 : gD m_B_handle 51 (.invokevirtual 47) 3 54 := ⟨by decide +kernel, rfl⟩
theorem d_B_handle_54 : gD m_B_handle 54 .ireturn 1 55 := ⟨by decide +kernel, rfl⟩
theorem d_L_drop_0 : gD m_L_drop 0 (.aload_n 2) 1 1 := ⟨by decide +kernel, rfl⟩
theorem d_L_drop_1 : gD m_L_drop 1 (.iconst 0) 1 2 := ⟨by decide +kernel, rfl⟩
theorem d_L_drop_2 : gD m_L_drop 2 (.aload_n 0) 1 3 := ⟨by decide +kernel, rfl⟩
theorem d_L_drop_3 : gD m_L_drop 3 (.iload_n 1) 1 4 := ⟨by decide +kernel, rfl⟩
theorem d_L_drop_4 : gD m_L_drop 4 (.invokevirtual 70) 3 7 := ⟨by decide +kernel, rfl⟩
theorem d_L_drop_7 : gD m_L_drop 7 (.ifCond .eq 7) 3 10 := ⟨by decide +kernel, rfl⟩
theorem d_L_drop_10 : gD m_L_drop 10 (.lconst 1) 1 11 := ⟨by decide +kernel, rfl⟩
theorem d_L_drop_11 : gD m_L_drop 11 (.goto 4) 3 14 := ⟨by decide +kernel, rfl⟩
theorem d_L_drop_14 : gD m_L_drop 14 (.lconst 0) 1 15 := ⟨by decide +kernel, rfl⟩
theorem d_L_drop_15 : gD m_L_drop 15 .lastore 1 16 := ⟨by decide +kernel, rfl⟩
theorem d_L_drop_16 : gD m_L_drop 16 (.goto 6) 3 19 := ⟨by decide +kernel, rfl⟩
theorem d_L_drop_19 : gD m_L_drop 19 (.astore_n 3) 1 20 := ⟨by decide +kernel, rfl⟩
theorem d_L_drop_20 : gD m_L_drop 20 (.iconst 1) 1 21 := ⟨by decide +kernel, rfl⟩
theorem d_L_drop_21 : gD m_L_drop 21 .ireturn 1 22 := ⟨by decide +kernel, rfl⟩
theorem d_L_drop_22 : gD m_L_drop 22 (.iconst 0) 1 23 := ⟨by decide +kernel, rfl⟩
theorem d_L_drop_23 : gD m_L_drop 23 .ireturn 1 24 := ⟨by decide +kernel, rfl⟩
theorem d_A_drop_0 : gD m_A_drop 0 (.iload_n 1) 1 1 := ⟨by decide +kernel, rfl⟩
theorem d_A_drop_1 : gD m_A_drop 1 (.invokestatic 175) 3 4 := ⟨by decide +kernel, rfl⟩
theorem d_A_drop_4 : gD m_A_drop 4 (.aload_n 0) 1 5 := ⟨by decide +kernel, rfl⟩
theorem d_A_drop_5 : gD m_A_drop 5 (.getfield 67) 3 8 := ⟨by decide +kernel, rfl⟩
theorem d_A_drop_8 : gD m_A_drop 8 (.iload_n 1) 1 9 := ⟨by decide +kernel, rfl⟩
theorem d_A_drop_9 : gD m_A_drop 9 (.invokevirtual 270) 3 12 := ⟨by decide +kernel, rfl⟩
theorem d_A_drop_12 : gD m_A_drop 12 .ireturn 1 13 := ⟨by decide +kernel, rfl⟩
theorem d_B_discard_0 : gD m_B_discard 0 (.aload_n 0) 1 1 := ⟨by decide +kernel, rfl⟩
theorem d_B_discard_1 : gD m_B_discard 1 (.getfield 9) 3 4 := ⟨by decide +kernel, rfl⟩
theorem d_B_discard_4 : gD m_B_discard 4 (.iload_n 1) 1 5 := ⟨by decide +kernel, rfl⟩
theorem d_B_discard_5 : gD m_B_discard 5 .iaload 1 6 := ⟨by decide +kernel, rfl⟩
theorem d_B_discard_6 : gD m_B_discard 6 (.ifCond .eq 7) 3 9 := ⟨by decide +kernel, rfl⟩
theorem d_B_discard_9 : gD m_B_discard 9 (.iconst 1) 1 10 := ⟨by decide +kernel, rfl⟩
theorem d_B_discard_10 : gD m_B_discard 10 (.goto 4) 3 13 := ⟨by decide +kernel, rfl⟩
theorem d_B_discard_13 : gD m_B_discard 13 (.iconst 0) 1 14 := ⟨by decide +kernel, rfl⟩
theorem d_B_discard_14 : gD m_B_discard 14 (.istore_n 2) 1 15 := ⟨by decide +kernel, rfl⟩
theorem d_B_discard_15 : gD m_B_discard 15 (.aload_n 0) 1 16 := ⟨by decide +kernel, rfl⟩
theorem d_B_discard_16 : gD m_B_discard 16 (.getfield 9) 3 19 := ⟨by decide +kernel, rfl⟩
theorem d_B_discard_19 : gD m_B_discard 19 (.iload_n 1) 1 20 := ⟨by decide +kernel, rfl⟩
theorem d_B_discard_20 : gD m_B_discard 20 (.iconst 0) 1 21 := ⟨by decide +kernel, rfl⟩
theorem d_B_discard_21 : gD m_B_discard 21 .iastore 1 22 := ⟨by decide +kernel, rfl⟩
theorem d_B_discard_22 : gD m_B_discard 22 (.aload_n 0) 1 23 := ⟨by decide +kernel, rfl⟩
theorem d_B_discard_23 : gD m_B_discard 23 (.getfield 19) 3 26 := ⟨by decide +kernel, rfl⟩
theorem d_B_discard_26 : gD m_B_discard 26 (.iload_n 1) 1 27 := ⟨by decide +kernel, rfl⟩
theorem d_B_discard_27 : gD m_B_discard 27 (.if_icmp .ne 8) 3 30 := ⟨by decide +kernel, rfl⟩
theorem d_B_discard_30 : gD m_B_discard 30 (.aload_n 0) 1 31 := ⟨by decide +kernel, rfl⟩
theorem d_B_discard_31 : gD m_B_discard 31 (.iconst (-1)) 1 32 := ⟨by decide +kernel, rfl⟩
theorem d_B_discard_32 : gD m_B_discard 32 (.putfield 19) 3 35 := ⟨by decide +kernel, rfl⟩
theorem d_B_discard_35 : gD m_B_discard 35 (.iload_n 2) 1 36 := ⟨by decide +kernel, rfl⟩
theorem d_B_discard_36 : gD m_B_discard 36 .ireturn 1 37 := ⟨by decide +kernel, rfl⟩
theorem d_M_init_0 : gD m_M_init 0 (.aload_n 0) 1 1 := ⟨by decide +kernel, rfl⟩
theorem d_M_init_1 : gD m_M_init 1 (.invokespecial 1) 3 4 := ⟨by decide +kernel, rfl⟩
theorem d_M_init_4 : gD m_M_init 4 (.aload_n 0) 1 5 := ⟨by decide +kernel, rfl⟩
theorem d_M_init_5 : gD m_M_init 5 (.bipush 64) 2 7 := ⟨by decide +kernel, rfl⟩
theorem d_M_init_7 : gD m_M_init 7 (.newarray .boolean) 2 9 := ⟨by decide +kernel, rfl⟩
theorem d_M_init_9 : gD m_M_init 9 (.putfield 7) 3 12 := ⟨by decide +kernel, rfl⟩
theorem d_M_init_12 : gD m_M_init 12 (.aload_n 0) 1 13 := ⟨by decide +kernel, rfl⟩
theorem d_M_init_13 : gD m_M_init 13 (.sipush 192) 3 16 := ⟨by decide +kernel, rfl⟩
theorem d_M_init_16 : gD m_M_init 16 (.newarray .int) 2 18 := ⟨by decide +kernel, rfl⟩
theorem d_M_init_18 : gD m_M_init 18 (.putfield 13) 3 21 := ⟨by decide +kernel, rfl⟩
theorem d_M_init_21 : gD m_M_init 21 (.aload_n 0) 1 22 := ⟨by decide +kernel, rfl⟩
theorem d_M_init_22 : gD m_M_init 22 (.bipush 9) 2 24 := ⟨by decide +kernel, rfl⟩
theorem d_M_init_24 : gD m_M_init 24 (.newarray .int) 2 26 := ⟨by decide +kernel, rfl⟩
theorem d_M_init_26 : gD m_M_init 26 .dup 1 27 := ⟨by decide +kernel, rfl⟩
theorem d_M_init_27 : gD m_M_init 27 (.iconst 0) 1 28 := ⟨by decide +kernel, rfl⟩
theorem d_M_init_28 : gD m_M_init 28 (.iconst 0) 1 29 := ⟨by decide +kernel, rfl⟩
theorem d_M_init_29 : gD m_M_init 29 .iastore 1 30 := ⟨by decide +kernel, rfl⟩
theorem d_M_init_30 : gD m_M_init 30 .dup 1 31 := ⟨by decide +kernel, rfl⟩
theorem d_M_init_31 : gD m_M_init 31 (.iconst 1) 1 32 := ⟨by decide +kernel, rfl⟩
theorem d_M_init_32 : gD m_M_init 32 (.iconst 1) 1 33 := ⟨by decide +kernel, rfl⟩
theorem d_M_init_33 : gD m_M_init 33 .iastore 1 34 := ⟨by decide +kernel, rfl⟩
theorem d_M_init_34 : gD m_M_init 34 .dup 1 35 := ⟨by decide +kernel, rfl⟩
theorem d_M_init_35 : gD m_M_init 35 (.iconst 2) 1 36 := ⟨by decide +kernel, rfl⟩
theorem d_M_init_36 : gD m_M_init 36 (.iconst 2) 1 37 := ⟨by decide +kernel, rfl⟩
theorem d_M_init_37 : gD m_M_init 37 .iastore 1 38 := ⟨by decide +kernel, rfl⟩
theorem d_M_init_38 : gD m_M_init 38 .dup 1 39 := ⟨by decide +kernel, rfl⟩
theorem d_M_init_39 : gD m_M_init 39 (.iconst 3) 1 40 := ⟨by decide +kernel, rfl⟩
theorem d_M_init_40 : gD m_M_init 40 (.iconst 0) 1 41 := ⟨by decide +kernel, rfl⟩
theorem d_M_init_41 : gD m_M_init 41 .iastore 1 42 := ⟨by decide +kernel, rfl⟩
theorem d_M_init_42 : gD m_M_init 42 .dup 1 43 := ⟨by decide +kernel, rfl⟩
theorem d_M_init_43 : gD m_M_init 43 (.iconst 4) 1 44 := ⟨by decide +kernel, rfl⟩
theorem d_M_init_44 : gD m_M_init 44 (.iconst 0) 1 45 := ⟨by decide +kernel, rfl⟩
theorem d_M_init_45 : gD m_M_init 45 .iastore 1 46 := ⟨by decide +kernel, rfl⟩
theorem d_M_init_46 : gD m_M_init 46 .dup 1 47 := ⟨by decide +kernel, rfl⟩
theorem d_M_init_47 : gD m_M_init 47 (.iconst 5) 1 48 := ⟨by decide +kernel, rfl⟩
theorem d_M_init_48 : gD m_M_init 48 (.iconst 1) 1 49 := ⟨by decide +kernel, rfl⟩
theorem d_M_init_49 : gD m_M_init 49 .iastore 1 50 := ⟨by decide +kernel, rfl⟩
theorem d_M_init_50 : gD m_M_init 50 .dup 1 51 := ⟨by decide +kernel, rfl⟩
theorem d_M_init_51 : gD m_M_init 51 (.bipush 6) 2 53 := ⟨by decide +kernel, rfl⟩
theorem d_M_init_53 : gD m_M_init 53 (.iconst 1) 1 54 := ⟨by decide +kernel, rfl⟩
theorem d_M_init_54 : gD m_M_init 54 .iastore 1 55 := ⟨by decide +kernel, rfl⟩
theorem d_M_init_55 : gD m_M_init 55 .dup 1 56 := ⟨by decide +kernel, rfl⟩
theorem d_M_init_56 : gD m_M_init 56 (.bipush 7) 2 58 := ⟨by decide +kernel, rfl⟩
theorem d_M_init_58 : gD m_M_init 58 (.iconst 2) 1 59 := ⟨by decide +kernel, rfl⟩
theorem d_M_init_59 : gD m_M_init 59 .iastore 1 60 := ⟨by decide +kernel, rfl⟩
theorem d_M_init_60 : gD m_M_init 60 .dup 1 61 := ⟨by decide +kernel, rfl⟩
theorem d_M_init_61 : gD m_M_init 61 (.bipush 8) 2 63 := ⟨by decide +kernel, rfl⟩
theorem d_M_init_63 : gD m_M_init 63 (.iconst 2) 1 64 := ⟨by decide +kernel, rfl⟩
theorem d_M_init_64 : gD m_M_init 64 .iastore 1 65 := ⟨by decide +kernel, rfl⟩
theorem d_M_init_65 : gD m_M_init 65 (.putfield 17) 3 68 := ⟨by decide +kernel, rfl⟩
theorem d_M_init_68 : gD m_M_init 68 (.aload_n 0) 1 69 := ⟨by decide +kernel, rfl⟩
theorem d_M_init_69 : gD m_M_init 69 (.bipush 9) 2 71 := ⟨by decide +kernel, rfl⟩
theorem d_M_init_71 : gD m_M_init 71 (.newarray .int) 2 73 := ⟨by decide +kernel, rfl⟩
theorem d_M_init_73 : gD m_M_init 73 .dup 1 74 := ⟨by decide +kernel, rfl⟩
theorem d_M_init_74 : gD m_M_init 74 (.iconst 0) 1 75 := ⟨by decide +kernel, rfl⟩
theorem d_M_init_75 : gD m_M_init 75 (.iconst (-1)) 1 76 := ⟨by decide +kernel, rfl⟩
theorem d_M_init_76 : gD m_M_init 76 .iastore 1 77 := ⟨by decide +kernel, rfl⟩
theorem d_M_init_77 : gD m_M_init 77 .dup 1 78 := ⟨by decide +kernel, rfl⟩
theorem d_M_init_78 : gD m_M_init 78 (.iconst 1) 1 79 := ⟨by decide +kernel, rfl⟩
theorem d_M_init_79 : gD m_M_init 79 (.iconst (-1)) 1 80 := ⟨by decide +kernel, rfl⟩
theorem d_M_init_80 : gD m_M_init 80 .iastore 1 81 := ⟨by decide +kernel, rfl⟩
theorem d_M_init_81 : gD m_M_init 81 .dup 1 82 := ⟨by decide +kernel, rfl⟩
theorem d_M_init_82 : gD m_M_init 82 (.iconst 2) 1 83 := ⟨by decide +kernel, rfl⟩
theorem d_M_init_83 : gD m_M_init 83 (.iconst (-1)) 1 84 := ⟨by decide +kernel, rfl⟩
theorem d_M_init_84 : gD m_M_init 84 .iastore 1 85 := ⟨by decide +kernel, rfl⟩
theorem d_M_init_85 : gD m_M_init 85 .dup 1 86 := ⟨by decide +kernel, rfl⟩
theorem d_M_init_86 : gD m_M_init 86 (.iconst 3) 1 87 := ⟨by decide +kernel, rfl⟩
theorem d_M_init_87 : gD m_M_init 87 (.iconst 1) 1 88 := ⟨by decide +kernel, rfl⟩
theorem d_M_init_88 : gD m_M_init 88 .iastore 1 89 := ⟨by decide +kernel, rfl⟩
theorem d_M_init_89 : gD m_M_init 89 .dup 1 90 := ⟨by decide +kernel, rfl⟩
theorem d_M_init_90 : gD m_M_init 90 (.iconst 4) 1 91 := ⟨by decide +kernel, rfl⟩
theorem d_M_init_91 : gD m_M_init 91 (.iconst 2) 1 92 := ⟨by decide +kernel, rfl⟩
theorem d_M_init_92 : gD m_M_init 92 .iastore 1 93 := ⟨by decide +kernel, rfl⟩
theorem d_M_init_93 : gD m_M_init 93 .dup 1 94 := ⟨by decide +kernel, rfl⟩
theorem d_M_init_94 : gD m_M_init 94 (.iconst 5) 1 95 := ⟨by decide +kernel, rfl⟩
theorem d_M_init_95 : gD m_M_init 95 (.iconst 0) 1 96 := ⟨by decide +kernel, rfl⟩
theorem d_M_init_96 : gD m_M_init 96 .iastore 1 97 := ⟨by decide +kernel, rfl⟩
theorem d_M_init_97 : gD m_M_init 97 .dup 1 98 := ⟨by decide +kernel, rfl⟩
theorem d_M_init_98 : gD m_M_init 98 (.bipush 6) 2 100 := ⟨by decide +kernel, rfl⟩
theorem d_M_init_100 : gD m_M_init 100 (.iconst 2) 1 101 := ⟨by decide +kernel, rfl⟩
theorem d_M_init_101 : gD m_M_init 101 .iastore 1 102 := ⟨by decide +kernel, rfl⟩
theorem d_M_init_102 : gD m_M_init 102 .dup 1 103 := ⟨by decide +kernel, rfl⟩
theorem d_M_init_103 : gD m_M_init 103 (.bipush 7) 2 105 := ⟨by decide +kernel, rfl⟩
theorem d_M_init_105 : gD m_M_init 105 (.iconst 0) 1 106 := ⟨by decide +kernel, rfl⟩
theorem d_M_init_106 : gD m_M_init 106 .iastore 1 107 := ⟨by decide +kernel, rfl⟩
theorem d_M_init_107 : gD m_M_init 107 .dup 1 108 := ⟨by decide +kernel, rfl⟩
theorem d_M_init_108 : gD m_M_init 108 (.bipush 8) 2 110 := ⟨by decide +kernel, rfl⟩
theorem d_M_init_110 : gD m_M_init 110 (.iconst 1) 1 111 := ⟨by decide +kernel, rfl⟩
theorem d_M_init_111 : gD m_M_init 111 .iastore 1 112 := ⟨by decide +kernel, rfl⟩
theorem d_M_init_112 : gD m_M_init 112 (.putfield 20) 3 115 := ⟨by decide +kernel, rfl⟩
theorem d_M_init_115 : gD m_M_init 115 (.aload_n 0) 1 116 := ⟨by decide +kernel, rfl⟩
theorem d_M_init_116 : gD m_M_init 116 (.bipush 9) 2 118 := ⟨by decide +kernel, rfl⟩
theorem d_M_init_118 : gD m_M_init 118 (.newarray .int) 2 120 := ⟨by decide +kernel, rfl⟩
theorem d_M_init_120 : gD m_M_init 120 (.putfield 23) 3 123 := ⟨by decide +kernel, rfl⟩
theorem d_M_init_123 : gD m_M_init 123 (.aload_n 0) 1 124 := ⟨by decide +kernel, rfl⟩
theorem d_M_init_124 : gD m_M_init 124 (.iconst (-1)) 1 125 := ⟨by decide +kernel, rfl⟩
theorem d_M_init_125 : gD m_M_init 125 (.putfield 26) 3 128 := ⟨by decide +kernel, rfl⟩
theorem d_M_init_128 : gD m_M_init 128 (.aload_n 0) 1 129 := ⟨by decide +kernel, rfl⟩
theorem d_M_init_129 : gD m_M_init 129 (.bipush 27) 2 131 := ⟨by decide +kernel, rfl⟩
theorem d_M_init_131 : gD m_M_init 131 (.newarray .int) 2 133 := ⟨by decide +kernel, rfl⟩
theorem d_M_init_133 : gD m_M_init 133 (.putfield 30) 3 136 := ⟨by decide +kernel, rfl⟩
theorem d_M_init_136 : gD m_M_init 136 (.aload_n 0) 1 137 := ⟨by decide +kernel, rfl⟩
theorem d_M_init_137 : gD m_M_init 137 (.bipush 27) 2 139 := ⟨by decide +kernel, rfl⟩
theorem d_M_init_139 : gD m_M_init 139 (.newarray .int) 2 141 := ⟨by decide +kernel, rfl⟩
theorem d_M_init_141 : gD m_M_init 141 (.putfield 33) 3 144 := ⟨by decide +kernel, rfl⟩
theorem d_M_init_144 : gD m_M_init 144 (.aload_n 0) 1 145 := ⟨by decide +kernel, rfl⟩
theorem d_M_init_145 : gD m_M_init 145 (.bipush 27) 2 147 := ⟨by decide +kernel, rfl⟩
theorem d_M_init_147 : gD m_M_init 147 (.newarray .int) 2 149 := ⟨by decide +kernel, rfl⟩
theorem d_M_init_149 : gD m_M_init 149 (.putfield 36) 3 152 := ⟨by decide +kernel, rfl⟩
theorem d_M_init_152 : gD m_M_init 152 (.aload_n 0) 1 153 := ⟨by decide +kernel, rfl⟩
theorem d_M_init_153 : gD m_M_init 153 (.iconst (-1)) 1 154 := ⟨by decide +kernel, rfl⟩
theorem d_M_init_154 : gD m_M_init 154 (.putfield 39) 3 157 := ⟨by decide +kernel, rfl⟩
theorem d_M_init_157 : gD m_M_init 157 (.aload_n 0) 1 158 := ⟨by decide +kernel, rfl⟩
theorem d_M_init_158 : gD m_M_init 158 (.bipush 64) 2 160 := ⟨by decide +kernel, rfl⟩
theorem d_M_init_160 : gD m_M_init 160 (.putfield 42) 3 163 := ⟨by decide +kernel, rfl⟩
theorem d_M_init_163 : gD m_M_init 163 (.aload_n 0) 1 164 := ⟨by decide +kernel, rfl⟩
theorem d_M_init_164 : gD m_M_init 164 (.bipush 8) 2 166 := ⟨by decide +kernel, rfl⟩
theorem d_M_init_166 : gD m_M_init 166 (.newarray .int) 2 168 := ⟨by decide +kernel, rfl⟩
theorem d_M_init_168 : gD m_M_init 168 (.putfield 45) 3 171 := ⟨by decide +kernel, rfl⟩
theorem d_M_init_171 : gD m_M_init 171 (.aload_n 0) 1 172 := ⟨by decide +kernel, rfl⟩
theorem d_M_init_172 : gD m_M_init 172 (.bipush 16) 2 174 := ⟨by decide +kernel, rfl⟩
theorem d_M_init_174 : gD m_M_init 174 (.putfield 48) 3 177 := ⟨by decide +kernel, rfl⟩
theorem d_M_init_177 : gD m_M_init 177 (.aload_n 0) 1 178 := ⟨by decide +kernel, rfl⟩
theorem d_M_init_178 : gD m_M_init 178 (.bipush 16) 2 180 := ⟨by decide +kernel, rfl⟩
theorem d_M_init_180 : gD m_M_init 180 (.newarray .int) 2 182 := ⟨by decide +kernel, rfl⟩
theorem d_M_init_182 : gD m_M_init 182 (.putfield 51) 3 185 := ⟨by decide +kernel, rfl⟩
theorem d_M_init_185 : gD m_M_init 185 (.aload_n 0) 1 186 := ⟨by decide +kernel, rfl⟩
theorem d_M_init_186 : gD m_M_init 186 (.bipush 16) 2 188 := ⟨by decide +kernel, rfl⟩
theorem d_M_init_188 : gD m_M_init 188 (.newarray .boolean) 2 190 := ⟨by decide +kernel, rfl⟩
theorem d_M_init_190 : gD m_M_init 190 (.putfield 54) 3 193 := ⟨by decide +kernel, rfl⟩
theorem d_M_init_193 : gD m_M_init 193 (.aload_n 0) 1 194 := ⟨by decide +kernel, rfl⟩
theorem d_M_init_194 : gD m_M_init 194 (.bipush 64) 2 196 := ⟨by decide +kernel, rfl⟩
theorem d_M_init_196 : gD m_M_init 196 (.newarray .int) 2 198 := ⟨by decide +kernel, rfl⟩
theorem d_M_init_198 : gD m_M_init 198 (.putfield 57) 3 201 := ⟨by decide +kernel, rfl⟩
theorem d_M_init_201 : gD m_M_init 201 (.aload_n 0) 1 202 := ⟨by decide +kernel, rfl⟩
theorem d_M_init_202 : gD m_M_init 202 (.iconst (-1)) 1 203 := ⟨by decide +kernel, rfl⟩
theorem d_M_init_203 : gD m_M_init 203 (.putfield 60) 3 206 := ⟨by decide +kernel, rfl⟩
theorem d_M_init_206 : gD m_M_init 206 (.aload_n 0) 1 207 := ⟨by decide +kernel, rfl⟩
theorem d_M_init_207 : gD m_M_init 207 (.bipush 64) 2 209 := ⟨by decide +kernel, rfl⟩
theorem d_M_init_209 : gD m_M_init 209 (.newarray .int) 2 211 := ⟨by decide +kernel, rfl⟩
theorem d_M_init_211 : gD m_M_init 211 (.putfield 63) 3 214 := ⟨by decide +kernel, rfl⟩
theorem d_M_init_214 : gD m_M_init 214 (.aload_n 0) 1 215 := ⟨by decide +kernel, rfl⟩
theorem d_M_init_215 : gD m_M_init 215 (.bipush 73) 2 217 := ⟨by decide +kernel, rfl⟩
theorem d_M_init_217 : gD m_M_init 217 (.newarray .int) 2 219 := ⟨by decide +kernel, rfl⟩
theorem d_M_init_219 : gD m_M_init 219 (.putfield 66) 3 222 := ⟨by decide +kernel, rfl⟩
theorem d_M_init_222 : gD m_M_init 222 (.aload_n 0) 1 223 := ⟨by decide +kernel, rfl⟩
theorem d_M_init_223 : gD m_M_init 223 (.iload_n 1) 1 224 := ⟨by decide +kernel, rfl⟩
theorem d_M_init_224 : gD m_M_init 224 (.iconst 2) 1 225 := ⟨by decide +kernel, rfl⟩
theorem d_M_init_225 : gD m_M_init 225 (.if_icmp .ge 7) 3 228 := ⟨by decide +kernel, rfl⟩
theorem d_M_init_228 : gD m_M_init 228 (.iconst 2) 1 229 := ⟨by decide +kernel, rfl⟩
theorem d_M_init_229 : gD m_M_init 229 (.goto 15) 3 232 := ⟨by decide +kernel, rfl⟩
theorem d_M_init_232 : gD m_M_init 232 (.iload_n 1) 1 233 := ⟨by decide +kernel, rfl⟩
theorem d_M_init_233 : gD m_M_init 233 (.bipush 16) 2 235 := ⟨by decide +kernel, rfl⟩
theorem d_M_init_235 : gD m_M_init 235 (.if_icmp .le 8) 3 238 := ⟨by decide +kernel, rfl⟩
theorem d_M_init_238 : gD m_M_init 238 (.bipush 16) 2 240 := ⟨by decide +kernel, rfl⟩
theorem d_M_init_240 : gD m_M_init 240 (.goto 4) 3 243 := ⟨by decide +kernel, rfl⟩
theorem d_M_init_243 : gD m_M_init 243 (.iload_n 1) 1 244 := ⟨by decide +kernel, rfl⟩
theorem d_M_init_244 : gD m_M_init 244 (.putfield 69) 3 247 := ⟨by decide +kernel, rfl⟩
theorem d_M_init_247 : gD m_M_init 247 (.iconst 0) 1 248 := ⟨by decide +kernel, rfl⟩
theorem d_M_init_248 : gD m_M_init 248 (.istore_n 2) 1 249 := ⟨by decide +kernel, rfl⟩
theorem d_M_init_249 : gD m_M_init 249 (.iload_n 2) 1 250 := ⟨by decide +kernel, rfl⟩
theorem d_M_init_250 : gD m_M_init 250 (.bipush 16) 2 252 := ⟨by decide +kernel, rfl⟩
theorem d_M_init_252 : gD m_M_init 252 (.if_icmp .ge 16) 3 255 := ⟨by decide +kernel, rfl⟩
theorem d_M_init_255 : gD m_M_init 255 (.aload_n 0) 1 256 := ⟨by decide +kernel, rfl⟩
theorem d_M_init_256 : gD m_M_init 256 (.getfield 51) 3 259 := ⟨by decide +kernel, rfl⟩
theorem d_M_init_259 : gD m_M_init 259 (.iload_n 2) 1 260 := ⟨by decide +kernel, rfl⟩
theorem d_M_init_260 : gD m_M_init 260 (.iconst (-1)) 1 261 := ⟨by decide +kernel, rfl⟩
theorem d_M_init_261 : gD m_M_init 261 .iastore 1 262 := ⟨by decide +kernel, rfl⟩
theorem d_M_init_262 : gD m_M_init 262 (.iinc 2 1) 3 265 := ⟨by decide +kernel, rfl⟩
theorem d_M_init_265 : gD m_M_init 265 (.goto (-16)) 3 268 := ⟨by decide +kernel, rfl⟩
theorem d_M_init_268 : gD m_M_init 268 .return_ 1 269 := ⟨by decide +kernel, rfl⟩
theorem d_M_thrown_0 : gD m_M_thrown 0 (.aload_n 0) 1 1 := ⟨by decide +kernel, rfl⟩
theorem d_M_thrown_1 : gD m_M_thrown 1 (.getfield 72) 3 4 := ⟨by decide +kernel, rfl⟩
theorem d_M_thrown_4 : gD m_M_thrown 4 .ireturn 1 5 := ⟨by decide +kernel, rfl⟩
theorem d_M_insert_0 : gD m_M_insert 0 (.aload_n 0) 1 1 := ⟨by decide +kernel, rfl⟩
theorem d_M_insert_1 : gD m_M_insert 1 (.iload_n 1) 1 2 := ⟨by decide +kernel, rfl⟩
theorem d_M_insert_2 : gD m_M_insert 2 (.invokestatic 87) 3 5 := ⟨by decide +kernel, rfl⟩
theorem d_M_insert_5 : gD m_M_insert 5 (.ifCond .eq 17) 3 8 := ⟨by decide +kernel, rfl⟩
theorem d_M_insert_8 : gD m_M_insert 8 (.iload_n 2) 1 9 := ⟨by decide +kernel, rfl⟩
theorem d_M_insert_9 : gD m_M_insert 9 (.invokestatic 87) 3 12 := ⟨by decide +kernel, rfl⟩
theorem d_M_insert_12 : gD m_M_insert 12 (.ifCond .eq 10) 3 15 := ⟨by decide +kernel, rfl⟩
theorem d_M_insert_15 : gD m_M_insert 15 (.iload_n 3) 1 16 := ⟨by decide +kernel, rfl⟩
theorem d_M_insert_16 : gD m_M_insert 16 (.invokestatic 87) 3 19 := ⟨by decide +kernel, rfl⟩
theorem d_M_insert_19 : gD m_M_insert 19 (.ifCond .ne 7) 3 22 := ⟨by decide +kernel, rfl⟩
theorem d_M_insert_22 : gD m_M_insert 22 (.iconst 1) 1 23 := ⟨by decide +kernel, rfl⟩
theorem d_M_insert_23 : gD m_M_insert 23 (.goto 17) 3 26 := ⟨by decide +kernel, rfl⟩
theorem d_M_insert_26 : gD m_M_insert 26 (.aload_n 0) 1 27 := ⟨by decide +kernel, rfl⟩
theorem d_M_insert_27 : gD m_M_insert 27 (.getfield 75) 3 30 := ⟨by decide +kernel, rfl⟩
theorem d_M_insert_30 : gD m_M_insert 30 (.bipush 64) 2 32 := ⟨by decide +kernel, rfl⟩
theorem d_M_insert_32 : gD m_M_insert 32 (.if_icmp .ne 7) 3 35 := ⟨by decide +kernel, rfl⟩
theorem d_M_insert_35 : gD m_M_insert 35 (.iconst 2) 1 36 := ⟨by decide +kernel, rfl⟩
theorem d_M_insert_36 : gD m_M_insert 36 (.goto 4) 3 39 := ⟨by decide +kernel, rfl⟩
theorem d_M_insert_39 : gD m_M_insert 39 (.iconst 0) 1 40 := ⟨by decide +kernel, rfl⟩
theorem d_M_insert_40 : gD m_M_insert 40 (.putfield 72) 3 43 := ⟨by decide +kernel, rfl⟩
theorem d_M_insert_43 : gD m_M_insert 43 (.aload_n 0) 1 44 := ⟨by decide +kernel, rfl⟩
theorem d_M_insert_44 : gD m_M_insert 44 (.getfield 72) 3 47 := ⟨by decide +kernel, rfl⟩
theorem d_M_insert_47 : gD m_M_insert 47 (.ifCond .le 5) 3 50 := ⟨by decide +kernel, rfl⟩
theorem d_M_insert_50 : gD m_M_insert 50 (.iconst 0) 1 51 := ⟨by decide +kernel, rfl⟩
theorem d_M_insert_51 : gD m_M_insert 51 .ireturn 1 52 := ⟨by decide +kernel, rfl⟩
theorem d_M_insert_52 : gD m_M_insert 52 (.aload_n 0) 1 53 := ⟨by decide +kernel, rfl⟩
theorem d_M_insert_53 : gD m_M_insert 53 (.getfield 75) 3 56 := ⟨by decide +kernel, rfl⟩
theorem d_M_insert_56 : gD m_M_insert 56 (.istore 4) 2 58 := ⟨by decide +kernel, rfl⟩
theorem d_M_insert_58 : gD m_M_insert 58 (.aload_n 0) 1 59 := ⟨by decide +kernel, rfl⟩
theorem d_M_insert_59 : gD m_M_insert 59 (.getfield 13) 3 62 := ⟨by decide +kernel, rfl⟩
theorem d_M_insert_62 : gD m_M_insert 62 (.iconst 3) 1 63 := ⟨by decide +kernel, rfl⟩
theorem d_M_insert_63 : gD m_M_insert 63 (.iload 4) 2 65 := ⟨by decide +kernel, rfl⟩
theorem d_M_insert_65 : gD m_M_insert 65 .imul 1 66 := ⟨by decide +kernel, rfl⟩
theorem d_M_insert_66 : gD m_M_insert 66 (.iload_n 1) 1 67 := ⟨by decide +kernel, rfl⟩
theorem d_M_insert_67 : gD m_M_insert 67 .iastore 1 68 := ⟨by decide +kernel, rfl⟩
theorem d_M_insert_68 : gD m_M_insert 68 (.aload_n 0) 1 69 := ⟨by decide +kernel, rfl⟩
theorem d_M_insert_69 : gD m_M_insert 69 (.getfield 13) 3 72 := ⟨by decide +kernel, rfl⟩
theorem d_M_insert_72 : gD m_M_insert 72 (.iconst 3) 1 73 := ⟨by decide +kernel, rfl⟩
theorem d_M_insert_73 : gD m_M_insert 73 (.iload 4) 2 75 := ⟨by decide +kernel, rfl⟩
theorem d_M_insert_75 : gD m_M_insert 75 .imul 1 76 := ⟨by decide +kernel, rfl⟩
theorem d_M_insert_76 : gD m_M_insert 76 (.iconst 1) 1 77 := ⟨by decide +kernel, rfl⟩
theorem d_M_insert_77 : gD m_M_insert 77 .iadd 1 78 := ⟨by decide +kernel, rfl⟩
theorem d_M_insert_78 : gD m_M_insert 78 (.iload_n 2) 1 79 := ⟨by decide +kernel, rfl⟩
theorem d_M_insert_79 : gD m_M_insert 79 .iastore 1 80 := ⟨by decide +kernel, rfl⟩
theorem d_M_insert_80 : gD m_M_insert 80 (.aload_n 0) 1 81 := ⟨by decide +kernel, rfl⟩
theorem d_M_insert_81 : gD m_M_insert 81 (.getfield 13) 3 84 := ⟨by decide +kernel, rfl⟩
theorem d_M_insert_84 : gD m_M_insert 84 (.iconst 3) 1 85 := ⟨by decide +kernel, rfl⟩
theorem d_M_insert_85 : gD m_M_insert 85 (.iload 4) 2 87 := ⟨by decide +kernel, rfl⟩
theorem d_M_insert_87 : gD m_M_insert 87 .imul 1 88 := ⟨by decide +kernel, rfl⟩
theorem d_M_insert_88 : gD m_M_insert 88 (.iconst 2) 1 89 := ⟨by decide +kernel, rfl⟩
theorem d_M_insert_89 : gD m_M_insert 89 .iadd 1 90 := ⟨by decide +kernel, rfl⟩
theorem d_M_insert_90 : gD m_M_insert 90 (.iload_n 3) 1 91 := ⟨by decide +kernel, rfl⟩
theorem d_M_insert_91 : gD m_M_insert 91 .iastore 1 92 := ⟨by decide +kernel, rfl⟩
theorem d_M_insert_92 : gD m_M_insert 92 (.aload_n 0) 1 93 := ⟨by decide +kernel, rfl⟩
theorem d_M_insert_93 : gD m_M_insert 93 (.getfield 7) 3 96 := ⟨by decide +kernel, rfl⟩
theorem d_M_insert_96 : gD m_M_insert 96 (.iload 4) 2 98 := ⟨by decide +kernel, rfl⟩
theorem d_M_insert_98 : gD m_M_insert 98 (.iconst 1) 1 99 := ⟨by decide +kernel, rfl⟩
theorem d_M_insert_99 : gD m_M_insert 99 .bastore 1 100 := ⟨by decide +kernel, rfl⟩
theorem d_M_insert_100 : gD m_M_insert 100 (.aload_n 0) 1 101 := ⟨by decide +kernel, rfl⟩
theorem d_M_insert_101 : gD m_M_insert 101 .dup 1 102 := ⟨by decide +kernel, rfl⟩
theorem d_M_insert_102 : gD m_M_insert 102 (.getfield 75) 3 105 := ⟨by decide +kernel, rfl⟩
theorem d_M_insert_105 : gD m_M_insert 105 (.iconst 1) 1 106 := ⟨by decide +kernel, rfl⟩
theorem d_M_insert_106 : gD m_M_insert 106 .iadd 1 107 := ⟨by decide +kernel, rfl⟩
theorem d_M_insert_107 : gD m_M_insert 107 (.putfield 75) 3 110 := ⟨by decide +kernel, rfl⟩
theorem d_M_insert_110 : gD m_M_insert 110 (.aload_n 0) 1 111 := ⟨by decide +kernel, rfl⟩
theorem d_M_insert_111 : gD m_M_insert 111 (.iload 4) 2 113 := ⟨by decide +kernel, rfl⟩
theorem d_M_insert_113 : gD m_M_insert 113 (.invokevirtual 91) 3 116 := ⟨by decide +kernel, rfl⟩
theorem d_M_insert_116 : gD m_M_insert 116 (.iload 4) 2 118 := ⟨by decide +kernel, rfl⟩
theorem d_M_insert_118 : gD m_M_insert 118 .ireturn 1 119 := ⟨by decide +kernel, rfl⟩
theorem d_M_isValue_0 : gD m_M_isValue 0 (.iload_n 0) 1 1 := ⟨by decide +kernel, rfl⟩
theorem d_M_isValue_1 : gD m_M_isValue 1 (.sipush (-1000)) 3 4 := ⟨by decide +kernel, rfl⟩
theorem d_M_isValue_4 : gD m_M_isValue 4 (.if_icmp .lt 14) 3 7 := ⟨by decide +kernel, rfl⟩
theorem d_M_isValue_7 : gD m_M_isValue 7 (.iload_n 0) 1 8 := ⟨by decide +kernel, rfl⟩
theorem d_M_isValue_8 : gD m_M_isValue 8 (.sipush 1000) 3 11 := ⟨by decide +kernel, rfl⟩
theorem d_M_isValue_11 : gD m_M_isValue 11 (.if_icmp .gt 7) 3 14 := ⟨by decide +kernel, rfl⟩
theorem d_M_isValue_14 : gD m_M_isValue 14 (.iconst 1) 1 15 := ⟨by decide +kernel, rfl⟩
theorem d_M_isValue_15 : gD m_M_isValue 15 (.goto 4) 3 18 := ⟨by decide +kernel, rfl⟩
theorem d_M_isValue_18 : gD m_M_isValue 18 (.iconst 0) 1 19 := ⟨by decide +kernel, rfl⟩
theorem d_M_isValue_19 : gD m_M_isValue 19 .ireturn 1 20 := ⟨by decide +kernel, rfl⟩
theorem d_M_note_0 : gD m_M_note 0 (.aload_n 0) 1 1 := ⟨by decide +kernel, rfl⟩
theorem d_M_note_1 : gD m_M_note 1 (.aload_n 0) 1 2 := ⟨by decide +kernel, rfl⟩
theorem d_M_note_2 : gD m_M_note 2 (.getfield 78) 3 5 := ⟨by decide +kernel, rfl⟩
theorem d_M_note_5 : gD m_M_note 5 (.iconst 4) 1 6 := ⟨by decide +kernel, rfl⟩
theorem d_M_note_6 : gD m_M_note 6 .iadd 1 7 := ⟨by decide +kernel, rfl⟩
theorem d_M_note_7 : gD m_M_note 7 (.putfield 78) 3 10 := ⟨by decide +kernel, rfl⟩
theorem d_M_note_10 : gD m_M_note 10 (.aload_n 0) 1 11 := ⟨by decide +kernel, rfl⟩
theorem d_M_note_11 : gD m_M_note 11 (.getfield 26) 3 14 := ⟨by decide +kernel, rfl⟩
theorem d_M_note_14 : gD m_M_note 14 (.ifCond .lt 21) 3 17 := ⟨by decide +kernel, rfl⟩
theorem d_M_note_17 : gD m_M_note 17 (.iload_n 1) 1 18 := ⟨by decide +kernel, rfl⟩
theorem d_M_note_18 : gD m_M_note 18 (.aload_n 0) 1 19 := ⟨by decide +kernel, rfl⟩
theorem d_M_note_19 : gD m_M_note 19 (.getfield 81) 3 22 := ⟨by decide +kernel, rfl⟩
theorem d_M_note_22 : gD m_M_note 22 (.if_icmp .ge 13) 3 25 := ⟨by decide +kernel, rfl⟩
theorem d_M_note_25 : gD m_M_note 25 (.aload_n 0) 1 26 := ⟨by decide +kernel, rfl⟩
theorem d_M_note_26 : gD m_M_note 26 .dup 1 27 := ⟨by decide +kernel, rfl⟩
theorem d_M_note_27 : gD m_M_note 27 (.getfield 84) 3 30 := ⟨by decide +kernel, rfl⟩
theorem d_M_note_30 : gD m_M_note 30 (.iconst 1) 1 31 := ⟨by decide +kernel, rfl⟩
theorem d_M_note_31 : gD m_M_note 31 .iadd 1 32 := ⟨by decide +kernel, rfl⟩
theorem d_M_note_32 : gD m_M_note 32 (.putfield 84) 3 35 := ⟨by decide +kernel, rfl⟩
theorem d_M_note_35 : gD m_M_note 35 .return_ 1 36 := ⟨by decide +kernel, rfl⟩
theorem d_M_delete_0 : gD m_M_delete 0 (.aload_n 0) 1 1 := ⟨by decide +kernel, rfl⟩
theorem d_M_delete_1 : gD m_M_delete 1 (.aload_n 0) 1 2 := ⟨by decide +kernel, rfl⟩
theorem d_M_delete_2 : gD m_M_delete 2 (.iload_n 1) 1 3 := ⟨by decide +kernel, rfl⟩
theorem d_M_delete_3 : gD m_M_delete 3 (.invokevirtual 95) 3 6 := ⟨by decide +kernel, rfl⟩
theorem d_M_delete_6 : gD m_M_delete 6 (.ifCond .eq 7) 3 9 := ⟨by decide +kernel, rfl⟩
theorem d_M_delete_9 : gD m_M_delete 9 (.iconst 0) 1 10 := ⟨by decide +kernel, rfl⟩
theorem d_M_delete_10 : gD m_M_delete 10 (.goto 4) 3 13 := ⟨by decide +kernel, rfl⟩
theorem d_M_delete_13 : gD m_M_delete 13 (.iconst 1) 1 14 := ⟨by decide +kernel, rfl⟩
theorem d_M_delete_14 : gD m_M_delete 14 (.putfield 72) 3 17 := ⟨by decide +kernel, rfl⟩
theorem d_M_delete_17 : gD m_M_delete 17 (.aload_n 0) 1 18 := ⟨by decide +kernel, rfl⟩
theorem d_M_delete_18 : gD m_M_delete 18 (.getfield 72) 3 21 := ⟨by decide +kernel, rfl⟩
theorem d_M_delete_21 : gD m_M_delete 21 (.ifCond .ne 15) 3 24 := ⟨by decide +kernel, rfl⟩
theorem d_M_delete_24 : gD m_M_delete 24 (.aload_n 0) 1 25 := ⟨by decide +kernel, rfl⟩
theorem d_M_delete_25 : gD m_M_delete 25 (.getfield 7) 3 28 := ⟨by decide +kernel, rfl⟩
theorem d_M_delete_28 : gD m_M_delete 28 (.iload_n 1) 1 29 := ⟨by decide +kernel, rfl⟩
theorem d_M_delete_29 : gD m_M_delete 29 (.iconst 0) 1 30 := ⟨by decide +kernel, rfl⟩
theorem d_M_delete_30 : gD m_M_delete 30 .bastore 1 31 := ⟨by decide +kernel, rfl⟩
theorem d_M_delete_31 : gD m_M_delete 31 (.aload_n 0) 1 32 := ⟨by decide +kernel, rfl⟩
theorem d_M_delete_32 : gD m_M_delete 32 (.iload_n 1) 1 33 := ⟨by decide +kernel, rfl⟩
theorem d_M_delete_33 : gD m_M_delete 33 (.invokevirtual 91) 3 36 := ⟨by decide +kernel, rfl⟩
theorem d_M_delete_36 : gD m_M_delete 36 .return_ 1 37 := ⟨by decide +kernel, rfl⟩
theorem d_M_isRow_0 : gD m_M_isRow 0 (.iload_n 1) 1 1 := ⟨by decide +kernel, rfl⟩
theorem d_M_isRow_1 : gD m_M_isRow 1 (.ifCond .lt 24) 3 4 := ⟨by decide +kernel, rfl⟩
theorem d_M_isRow_4 : gD m_M_isRow 4 (.iload_n 1) 1 5 := ⟨by decide +kernel, rfl⟩
theorem d_M_isRow_5 : gD m_M_isRow 5 (.aload_n 0) 1 6 := ⟨by decide +kernel, rfl⟩
theorem d_M_isRow_6 : gD m_M_isRow 6 (.getfield 75) 3 9 := ⟨by decide +kernel, rfl⟩
theorem d_M_isRow_9 : gD m_M_isRow 9 (.if_icmp .ge 16) 3 12 := ⟨by decide +kernel, rfl⟩
theorem d_M_isRow_12 : gD m_M_isRow 12 (.aload_n 0) 1 13 := ⟨by decide +kernel, rfl⟩
theorem d_M_isRow_13 : gD m_M_isRow 13 (.getfield 7) 3 16 := ⟨by decide +kernel, rfl⟩
theorem d_M_isRow_16 : gD m_M_isRow 16 (.iload_n 1) 1 17 := ⟨by decide +kernel, rfl⟩
end
section
/-! decode rows (wip/emit.py) -/
theorem d_M_isRow_17 : gD m_M_isRow 17 .baload 1 18 := ⟨by decide +kernel, rfl⟩
theorem d_M_isRow_18 : gD m_M_isRow 18 (.ifCond .eq 7) 3 21 := ⟨by decide +kernel, rfl⟩
theorem d_M_isRow_21 : gD m_M_isRow 21 (.iconst 1) 1 22 := ⟨by decide +kernel, rfl⟩
theorem d_M_isRow_22 : gD m_M_isRow 22 (.goto 4) 3 25 := ⟨by decide +kernel, rfl⟩
theorem d_M_isRow_25 : gD m_M_isRow 25 (.iconst 0) 1 26 := ⟨by decide +kernel, rfl⟩
theorem d_M_isRow_26 : gD m_M_isRow 26 .ireturn 1 27 := ⟨by decide +kernel, rfl⟩
theorem d_M_change_0 : gD m_M_change 0 (.aload_n 0) 1 1 := ⟨by decide +kernel, rfl⟩
theorem d_M_change_1 : gD m_M_change 1 (.aload_n 0) 1 2 := ⟨by decide +kernel, rfl⟩
theorem d_M_change_2 : gD m_M_change 2 (.iload_n 1) 1 3 := ⟨by decide +kernel, rfl⟩
theorem d_M_change_3 : gD m_M_change 3 (.invokevirtual 95) 3 6 := ⟨by decide +kernel, rfl⟩
theorem d_M_change_6 : gD m_M_change 6 (.ifCond .eq 10) 3 9 := ⟨by decide +kernel, rfl⟩
theorem d_M_change_9 : gD m_M_change 9 (.iload_n 2) 1 10 := ⟨by decide +kernel, rfl⟩
theorem d_M_change_10 : gD m_M_change 10 (.invokestatic 98) 3 13 := ⟨by decide +kernel, rfl⟩
theorem d_M_change_13 : gD m_M_change 13 (.ifCond .ne 7) 3 16 := ⟨by decide +kernel, rfl⟩
theorem d_M_change_16 : gD m_M_change 16 (.iconst 1) 1 17 := ⟨by decide +kernel, rfl⟩
theorem d_M_change_17 : gD m_M_change 17 (.goto 15) 3 20 := ⟨by decide +kernel, rfl⟩
theorem d_M_change_20 : gD m_M_change 20 (.iload_n 3) 1 21 := ⟨by decide +kernel, rfl⟩
theorem d_M_change_21 : gD m_M_change 21 (.invokestatic 87) 3 24 := ⟨by decide +kernel, rfl⟩
theorem d_M_change_24 : gD m_M_change 24 (.ifCond .ne 7) 3 27 := ⟨by decide +kernel, rfl⟩
theorem d_M_change_27 : gD m_M_change 27 (.iconst 2) 1 28 := ⟨by decide +kernel, rfl⟩
theorem d_M_change_28 : gD m_M_change 28 (.goto 4) 3 31 := ⟨by decide +kernel, rfl⟩
theorem d_M_change_31 : gD m_M_change 31 (.iconst 0) 1 32 := ⟨by decide +kernel, rfl⟩
theorem d_M_change_32 : gD m_M_change 32 (.putfield 72) 3 35 := ⟨by decide +kernel, rfl⟩
theorem d_M_change_35 : gD m_M_change 35 (.aload_n 0) 1 36 := ⟨by decide +kernel, rfl⟩
theorem d_M_change_36 : gD m_M_change 36 (.getfield 72) 3 39 := ⟨by decide +kernel, rfl⟩
theorem d_M_change_39 : gD m_M_change 39 (.ifCond .ne 19) 3 42 := ⟨by decide +kernel, rfl⟩
theorem d_M_change_42 : gD m_M_change 42 (.aload_n 0) 1 43 := ⟨by decide +kernel, rfl⟩
theorem d_M_change_43 : gD m_M_change 43 (.getfield 13) 3 46 := ⟨by decide +kernel, rfl⟩
theorem d_M_change_46 : gD m_M_change 46 (.iconst 3) 1 47 := ⟨by decide +kernel, rfl⟩
theorem d_M_change_47 : gD m_M_change 47 (.iload_n 1) 1 48 := ⟨by decide +kernel, rfl⟩
theorem d_M_change_48 : gD m_M_change 48 .imul 1 49 := ⟨by decide +kernel, rfl⟩
theorem d_M_change_49 : gD m_M_change 49 (.iload_n 2) 1 50 := ⟨by decide +kernel, rfl⟩
theorem d_M_change_50 : gD m_M_change 50 .iadd 1 51 := ⟨by decide +kernel, rfl⟩
theorem d_M_change_51 : gD m_M_change 51 (.iload_n 3) 1 52 := ⟨by decide +kernel, rfl⟩
theorem d_M_change_52 : gD m_M_change 52 .iastore 1 53 := ⟨by decide +kernel, rfl⟩
theorem d_M_change_53 : gD m_M_change 53 (.aload_n 0) 1 54 := ⟨by decide +kernel, rfl⟩
theorem d_M_change_54 : gD m_M_change 54 (.iload_n 1) 1 55 := ⟨by decide +kernel, rfl⟩
theorem d_M_change_55 : gD m_M_change 55 (.invokevirtual 91) 3 58 := ⟨by decide +kernel, rfl⟩
theorem d_M_change_58 : gD m_M_change 58 .return_ 1 59 := ⟨by decide +kernel, rfl⟩
theorem d_M_isColumn_0 : gD m_M_isColumn 0 (.iload_n 0) 1 1 := ⟨by decide +kernel, rfl⟩
theorem d_M_isColumn_1 : gD m_M_isColumn 1 (.ifCond .lt 12) 3 4 := ⟨by decide +kernel, rfl⟩
theorem d_M_isColumn_4 : gD m_M_isColumn 4 (.iload_n 0) 1 5 := ⟨by decide +kernel, rfl⟩
theorem d_M_isColumn_5 : gD m_M_isColumn 5 (.iconst 3) 1 6 := ⟨by decide +kernel, rfl⟩
theorem d_M_isColumn_6 : gD m_M_isColumn 6 (.if_icmp .ge 7) 3 9 := ⟨by decide +kernel, rfl⟩
theorem d_M_isColumn_9 : gD m_M_isColumn 9 (.iconst 1) 1 10 := ⟨by decide +kernel, rfl⟩
theorem d_M_isColumn_10 : gD m_M_isColumn 10 (.goto 4) 3 13 := ⟨by decide +kernel, rfl⟩
theorem d_M_isColumn_13 : gD m_M_isColumn 13 (.iconst 0) 1 14 := ⟨by decide +kernel, rfl⟩
theorem d_M_isColumn_14 : gD m_M_isColumn 14 .ireturn 1 15 := ⟨by decide +kernel, rfl⟩
theorem d_M_value_0 : gD m_M_value 0 (.aload_n 0) 1 1 := ⟨by decide +kernel, rfl⟩
theorem d_M_value_1 : gD m_M_value 1 (.aload_n 0) 1 2 := ⟨by decide +kernel, rfl⟩
theorem d_M_value_2 : gD m_M_value 2 (.iload_n 1) 1 3 := ⟨by decide +kernel, rfl⟩
theorem d_M_value_3 : gD m_M_value 3 (.invokevirtual 95) 3 6 := ⟨by decide +kernel, rfl⟩
theorem d_M_value_6 : gD m_M_value 6 (.ifCond .eq 14) 3 9 := ⟨by decide +kernel, rfl⟩
theorem d_M_value_9 : gD m_M_value 9 (.iload_n 2) 1 10 := ⟨by decide +kernel, rfl⟩
theorem d_M_value_10 : gD m_M_value 10 (.invokestatic 98) 3 13 := ⟨by decide +kernel, rfl⟩
theorem d_M_value_13 : gD m_M_value 13 (.ifCond .eq 7) 3 16 := ⟨by decide +kernel, rfl⟩
theorem d_M_value_16 : gD m_M_value 16 (.iconst 0) 1 17 := ⟨by decide +kernel, rfl⟩
theorem d_M_value_17 : gD m_M_value 17 (.goto 4) 3 20 := ⟨by decide +kernel, rfl⟩
theorem d_M_value_20 : gD m_M_value 20 (.iconst 1) 1 21 := ⟨by decide +kernel, rfl⟩
theorem d_M_value_21 : gD m_M_value 21 (.putfield 72) 3 24 := ⟨by decide +kernel, rfl⟩
theorem d_M_value_24 : gD m_M_value 24 (.aload_n 0) 1 25 := ⟨by decide +kernel, rfl⟩
theorem d_M_value_25 : gD m_M_value 25 (.getfield 72) 3 28 := ⟨by decide +kernel, rfl⟩
theorem d_M_value_28 : gD m_M_value 28 (.ifCond .le 7) 3 31 := ⟨by decide +kernel, rfl⟩
theorem d_M_value_31 : gD m_M_value 31 (.iconst 0) 1 32 := ⟨by decide +kernel, rfl⟩
theorem d_M_value_32 : gD m_M_value 32 (.goto 13) 3 35 := ⟨by decide +kernel, rfl⟩
theorem d_M_value_35 : gD m_M_value 35 (.aload_n 0) 1 36 := ⟨by decide +kernel, rfl⟩
theorem d_M_value_36 : gD m_M_value 36 (.getfield 13) 3 39 := ⟨by decide +kernel, rfl⟩
theorem d_M_value_39 : gD m_M_value 39 (.iconst 3) 1 40 := ⟨by decide +kernel, rfl⟩
theorem d_M_value_40 : gD m_M_value 40 (.iload_n 1) 1 41 := ⟨by decide +kernel, rfl⟩
theorem d_M_value_41 : gD m_M_value 41 .imul 1 42 := ⟨by decide +kernel, rfl⟩
theorem d_M_value_42 : gD m_M_value 42 (.iload_n 2) 1 43 := ⟨by decide +kernel, rfl⟩
theorem d_M_value_43 : gD m_M_value 43 .iadd 1 44 := ⟨by decide +kernel, rfl⟩
theorem d_M_value_44 : gD m_M_value 44 .iaload 1 45 := ⟨by decide +kernel, rfl⟩
theorem d_M_value_45 : gD m_M_value 45 .ireturn 1 46 := ⟨by decide +kernel, rfl⟩
theorem d_M_index_0 : gD m_M_index 0 (.aload_n 0) 1 1 := ⟨by decide +kernel, rfl⟩
theorem d_M_index_1 : gD m_M_index 1 (.iload_n 1) 1 2 := ⟨by decide +kernel, rfl⟩
theorem d_M_index_2 : gD m_M_index 2 (.invokestatic 123) 3 5 := ⟨by decide +kernel, rfl⟩
theorem d_M_index_5 : gD m_M_index 5 (.ifCond .eq 12) 3 8 := ⟨by decide +kernel, rfl⟩
theorem d_M_index_8 : gD m_M_index 8 (.iload_n 2) 1 9 := ⟨by decide +kernel, rfl⟩
theorem d_M_index_9 : gD m_M_index 9 (.ifCond .lt 8) 3 12 := ⟨by decide +kernel, rfl⟩
theorem d_M_index_12 : gD m_M_index 12 (.iload_n 2) 1 13 := ⟨by decide +kernel, rfl⟩
theorem d_M_index_13 : gD m_M_index 13 (.iconst 3) 1 14 := ⟨by decide +kernel, rfl⟩
theorem d_M_index_14 : gD m_M_index 14 (.if_icmp .le 7) 3 17 := ⟨by decide +kernel, rfl⟩
theorem d_M_index_17 : gD m_M_index 17 (.iconst 1) 1 18 := ⟨by decide +kernel, rfl⟩
theorem d_M_index_18 : gD m_M_index 18 (.goto 4) 3 21 := ⟨by decide +kernel, rfl⟩
theorem d_M_index_21 : gD m_M_index 21 (.iconst 0) 1 22 := ⟨by decide +kernel, rfl⟩
theorem d_M_index_22 : gD m_M_index 22 (.putfield 72) 3 25 := ⟨by decide +kernel, rfl⟩
theorem d_M_index_25 : gD m_M_index 25 (.aload_n 0) 1 26 := ⟨by decide +kernel, rfl⟩
theorem d_M_index_26 : gD m_M_index 26 (.getfield 72) 3 29 := ⟨by decide +kernel, rfl⟩
theorem d_M_index_29 : gD m_M_index 29 (.ifCond .le 5) 3 32 := ⟨by decide +kernel, rfl⟩
theorem d_M_index_32 : gD m_M_index 32 (.iconst 0) 1 33 := ⟨by decide +kernel, rfl⟩
theorem d_M_index_33 : gD m_M_index 33 .ireturn 1 34 := ⟨by decide +kernel, rfl⟩
theorem d_M_index_34 : gD m_M_index 34 (.iload_n 2) 1 35 := ⟨by decide +kernel, rfl⟩
theorem d_M_index_35 : gD m_M_index 35 (.ifCond .ne 10) 3 38 := ⟨by decide +kernel, rfl⟩
theorem d_M_index_38 : gD m_M_index 38 (.aload_n 0) 1 39 := ⟨by decide +kernel, rfl⟩
theorem d_M_index_39 : gD m_M_index 39 (.getfield 23) 3 42 := ⟨by decide +kernel, rfl⟩
theorem d_M_index_42 : gD m_M_index 42 (.iload_n 1) 1 43 := ⟨by decide +kernel, rfl⟩
theorem d_M_index_43 : gD m_M_index 43 .iaload 1 44 := ⟨by decide +kernel, rfl⟩
theorem d_M_index_44 : gD m_M_index 44 .ireturn 1 45 := ⟨by decide +kernel, rfl⟩
theorem d_M_index_45 : gD m_M_index 45 (.iload_n 2) 1 46 := ⟨by decide +kernel, rfl⟩
theorem d_M_index_46 : gD m_M_index 46 (.iconst 1) 1 47 := ⟨by decide +kernel, rfl⟩
theorem d_M_index_47 : gD m_M_index 47 (.if_icmp .ne 8) 3 50 := ⟨by decide +kernel, rfl⟩
theorem d_M_index_50 : gD m_M_index 50 (.aload_n 0) 1 51 := ⟨by decide +kernel, rfl⟩
theorem d_M_index_51 : gD m_M_index 51 (.invokevirtual 126) 3 54 := ⟨by decide +kernel, rfl⟩
theorem d_M_index_54 : gD m_M_index 54 .ireturn 1 55 := ⟨by decide +kernel, rfl⟩
theorem d_M_index_55 : gD m_M_index 55 (.iload_n 2) 1 56 := ⟨by decide +kernel, rfl⟩
theorem d_M_index_56 : gD m_M_index 56 (.iconst 2) 1 57 := ⟨by decide +kernel, rfl⟩
theorem d_M_index_57 : gD m_M_index 57 (.if_icmp .ne 8) 3 60 := ⟨by decide +kernel, rfl⟩
theorem d_M_index_60 : gD m_M_index 60 (.aload_n 0) 1 61 := ⟨by decide +kernel, rfl⟩
theorem d_M_index_61 : gD m_M_index 61 (.invokevirtual 129) 3 64 := ⟨by decide +kernel, rfl⟩
theorem d_M_index_64 : gD m_M_index 64 .ireturn 1 65 := ⟨by decide +kernel, rfl⟩
theorem d_M_index_65 : gD m_M_index 65 (.aload_n 0) 1 66 := ⟨by decide +kernel, rfl⟩
theorem d_M_index_66 : gD m_M_index 66 (.aload_n 0) 1 67 := ⟨by decide +kernel, rfl⟩
theorem d_M_index_67 : gD m_M_index 67 (.getfield 17) 3 70 := ⟨by decide +kernel, rfl⟩
theorem d_M_index_70 : gD m_M_index 70 (.iload_n 1) 1 71 := ⟨by decide +kernel, rfl⟩
theorem d_M_index_71 : gD m_M_index 71 .iaload 1 72 := ⟨by decide +kernel, rfl⟩
theorem d_M_index_72 : gD m_M_index 72 (.aload_n 0) 1 73 := ⟨by decide +kernel, rfl⟩
theorem d_M_index_73 : gD m_M_index 73 (.getfield 20) 3 76 := ⟨by decide +kernel, rfl⟩
theorem d_M_index_76 : gD m_M_index 76 (.iload_n 1) 1 77 := ⟨by decide +kernel, rfl⟩
theorem d_M_index_77 : gD m_M_index 77 .iaload 1 78 := ⟨by decide +kernel, rfl⟩
theorem d_M_index_78 : gD m_M_index 78 (.invokevirtual 132) 3 81 := ⟨by decide +kernel, rfl⟩
theorem d_M_index_81 : gD m_M_index 81 (.aload_n 0) 1 82 := ⟨by decide +kernel, rfl⟩
theorem d_M_index_82 : gD m_M_index 82 (.getfield 105) 3 85 := ⟨by decide +kernel, rfl⟩
theorem d_M_index_85 : gD m_M_index 85 (.ifCond .ne 7) 3 88 := ⟨by decide +kernel, rfl⟩
theorem d_M_index_88 : gD m_M_index 88 (.iconst (-1)) 1 89 := ⟨by decide +kernel, rfl⟩
theorem d_M_index_89 : gD m_M_index 89 (.goto 9) 3 92 := ⟨by decide +kernel, rfl⟩
theorem d_M_index_92 : gD m_M_index 92 (.aload_n 0) 1 93 := ⟨by decide +kernel, rfl⟩
theorem d_M_index_93 : gD m_M_index 93 (.getfield 63) 3 96 := ⟨by decide +kernel, rfl⟩
theorem d_M_index_96 : gD m_M_index 96 (.iconst 0) 1 97 := ⟨by decide +kernel, rfl⟩
theorem d_M_index_97 : gD m_M_index 97 .iaload 1 98 := ⟨by decide +kernel, rfl⟩
theorem d_M_index_98 : gD m_M_index 98 .ireturn 1 99 := ⟨by decide +kernel, rfl⟩
theorem d_M_isIndex_0 : gD m_M_isIndex 0 (.iload_n 0) 1 1 := ⟨by decide +kernel, rfl⟩
theorem d_M_isIndex_1 : gD m_M_isIndex 1 (.ifCond .lt 13) 3 4 := ⟨by decide +kernel, rfl⟩
theorem d_M_isIndex_4 : gD m_M_isIndex 4 (.iload_n 0) 1 5 := ⟨by decide +kernel, rfl⟩
theorem d_M_isIndex_5 : gD m_M_isIndex 5 (.bipush 9) 2 7 := ⟨by decide +kernel, rfl⟩
theorem d_M_isIndex_7 : gD m_M_isIndex 7 (.if_icmp .ge 7) 3 10 := ⟨by decide +kernel, rfl⟩
theorem d_M_isIndex_10 : gD m_M_isIndex 10 (.iconst 1) 1 11 := ⟨by decide +kernel, rfl⟩
theorem d_M_isIndex_11 : gD m_M_isIndex 11 (.goto 4) 3 14 := ⟨by decide +kernel, rfl⟩
theorem d_M_isIndex_14 : gD m_M_isIndex 14 (.iconst 0) 1 15 := ⟨by decide +kernel, rfl⟩
theorem d_M_isIndex_15 : gD m_M_isIndex 15 .ireturn 1 16 := ⟨by decide +kernel, rfl⟩
theorem d_M_height_0 : gD m_M_height 0 (.iconst 0) 1 1 := ⟨by decide +kernel, rfl⟩
theorem d_M_height_1 : gD m_M_height 1 (.istore_n 1) 1 2 := ⟨by decide +kernel, rfl⟩
theorem d_M_height_2 : gD m_M_height 2 (.aload_n 0) 1 3 := ⟨by decide +kernel, rfl⟩
theorem d_M_height_3 : gD m_M_height 3 (.invokevirtual 120) 3 6 := ⟨by decide +kernel, rfl⟩
theorem d_M_height_6 : gD m_M_height 6 (.istore_n 2) 1 7 := ⟨by decide +kernel, rfl⟩
theorem d_M_height_7 : gD m_M_height 7 (.iload_n 2) 1 8 := ⟨by decide +kernel, rfl⟩
theorem d_M_height_8 : gD m_M_height 8 (.iconst 1) 1 9 := ⟨by decide +kernel, rfl⟩
theorem d_M_height_9 : gD m_M_height 9 (.if_icmp .le 14) 3 12 := ⟨by decide +kernel, rfl⟩
theorem d_M_height_12 : gD m_M_height 12 (.iinc 1 1) 3 15 := ⟨by decide +kernel, rfl⟩
theorem d_M_height_15 : gD m_M_height 15 (.iload_n 2) 1 16 := ⟨by decide +kernel, rfl⟩
theorem d_M_height_16 : gD m_M_height 16 (.invokestatic 116) 3 19 := ⟨by decide +kernel, rfl⟩
theorem d_M_height_19 : gD m_M_height 19 (.istore_n 2) 1 20 := ⟨by decide +kernel, rfl⟩
theorem d_M_height_20 : gD m_M_height 20 (.goto (-13)) 3 23 := ⟨by decide +kernel, rfl⟩
theorem d_M_height_23 : gD m_M_height 23 (.iload_n 1) 1 24 := ⟨by decide +kernel, rfl⟩
theorem d_M_height_24 : gD m_M_height 24 .ireturn 1 25 := ⟨by decide +kernel, rfl⟩
theorem d_M_leaves_0 : gD m_M_leaves 0 (.aload_n 0) 1 1 := ⟨by decide +kernel, rfl⟩
theorem d_M_leaves_1 : gD m_M_leaves 1 (.invokevirtual 112) 3 4 := ⟨by decide +kernel, rfl⟩
theorem d_M_leaves_4 : gD m_M_leaves 4 (.invokestatic 116) 3 7 := ⟨by decide +kernel, rfl⟩
theorem d_M_leaves_7 : gD m_M_leaves 7 (.istore_n 1) 1 8 := ⟨by decide +kernel, rfl⟩
theorem d_M_leaves_8 : gD m_M_leaves 8 (.iload_n 1) 1 9 := ⟨by decide +kernel, rfl⟩
theorem d_M_leaves_9 : gD m_M_leaves 9 (.ifCond .ne 7) 3 12 := ⟨by decide +kernel, rfl⟩
theorem d_M_leaves_12 : gD m_M_leaves 12 (.iconst 1) 1 13 := ⟨by decide +kernel, rfl⟩
theorem d_M_leaves_13 : gD m_M_leaves 13 (.goto 4) 3 16 := ⟨by decide +kernel, rfl⟩
theorem d_M_leaves_16 : gD m_M_leaves 16 (.iload_n 1) 1 17 := ⟨by decide +kernel, rfl⟩
theorem d_M_leaves_17 : gD m_M_leaves 17 .ireturn 1 18 := ⟨by decide +kernel, rfl⟩
theorem d_M_live_0 : gD m_M_live 0 (.iconst 0) 1 1 := ⟨by decide +kernel, rfl⟩
theorem d_M_live_1 : gD m_M_live 1 (.istore_n 1) 1 2 := ⟨by decide +kernel, rfl⟩
theorem d_M_live_2 : gD m_M_live 2 (.iconst 0) 1 3 := ⟨by decide +kernel, rfl⟩
theorem d_M_live_3 : gD m_M_live 3 (.istore_n 2) 1 4 := ⟨by decide +kernel, rfl⟩
theorem d_M_live_4 : gD m_M_live 4 (.iload_n 2) 1 5 := ⟨by decide +kernel, rfl⟩
theorem d_M_live_5 : gD m_M_live 5 (.aload_n 0) 1 6 := ⟨by decide +kernel, rfl⟩
theorem d_M_live_6 : gD m_M_live 6 (.getfield 75) 3 9 := ⟨by decide +kernel, rfl⟩
theorem d_M_live_9 : gD m_M_live 9 (.if_icmp .ge 26) 3 12 := ⟨by decide +kernel, rfl⟩
theorem d_M_live_12 : gD m_M_live 12 (.aload_n 0) 1 13 := ⟨by decide +kernel, rfl⟩
theorem d_M_live_13 : gD m_M_live 13 (.getfield 7) 3 16 := ⟨by decide +kernel, rfl⟩
theorem d_M_live_16 : gD m_M_live 16 (.iload_n 2) 1 17 := ⟨by decide +kernel, rfl⟩
theorem d_M_live_17 : gD m_M_live 17 .baload 1 18 := ⟨by decide +kernel, rfl⟩
theorem d_M_live_18 : gD m_M_live 18 (.ifCond .eq 9) 3 21 := ⟨by decide +kernel, rfl⟩
theorem d_M_live_21 : gD m_M_live 21 (.iload_n 1) 1 22 := ⟨by decide +kernel, rfl⟩
theorem d_M_live_22 : gD m_M_live 22 (.iconst 1) 1 23 := ⟨by decide +kernel, rfl⟩
theorem d_M_live_23 : gD m_M_live 23 .iadd 1 24 := ⟨by decide +kernel, rfl⟩
theorem d_M_live_24 : gD m_M_live 24 (.goto 4) 3 27 := ⟨by decide +kernel, rfl⟩
theorem d_M_live_27 : gD m_M_live 27 (.iload_n 1) 1 28 := ⟨by decide +kernel, rfl⟩
theorem d_M_live_28 : gD m_M_live 28 (.istore_n 1) 1 29 := ⟨by decide +kernel, rfl⟩
theorem d_M_live_29 : gD m_M_live 29 (.iinc 2 1) 3 32 := ⟨by decide +kernel, rfl⟩
theorem d_M_live_32 : gD m_M_live 32 (.goto (-28)) 3 35 := ⟨by decide +kernel, rfl⟩
theorem d_M_live_35 : gD m_M_live 35 (.iload_n 1) 1 36 := ⟨by decide +kernel, rfl⟩
theorem d_M_live_36 : gD m_M_live 36 .ireturn 1 37 := ⟨by decide +kernel, rfl⟩
theorem d_M_byFour_0 : gD m_M_byFour 0 (.iload_n 0) 1 1 := ⟨by decide +kernel, rfl⟩
theorem d_M_byFour_1 : gD m_M_byFour 1 (.iconst 3) 1 2 := ⟨by decide +kernel, rfl⟩
theorem d_M_byFour_2 : gD m_M_byFour 2 .iadd 1 3 := ⟨by decide +kernel, rfl⟩
theorem d_M_byFour_3 : gD m_M_byFour 3 (.iconst 4) 1 4 := ⟨by decide +kernel, rfl⟩
theorem d_M_byFour_4 : gD m_M_byFour 4 .idiv 1 5 := ⟨by decide +kernel, rfl⟩
theorem d_M_byFour_5 : gD m_M_byFour 5 .ireturn 1 6 := ⟨by decide +kernel, rfl⟩
theorem d_M_sizeOfIndex_0 : gD m_M_sizeOfIndex 0 (.aload_n 0) 1 1 := ⟨by decide +kernel, rfl⟩
theorem d_M_sizeOfIndex_1 : gD m_M_sizeOfIndex 1 (.invokevirtual 120) 3 4 := ⟨by decide +kernel, rfl⟩
theorem d_M_sizeOfIndex_4 : gD m_M_sizeOfIndex 4 (.istore_n 1) 1 5 := ⟨by decide +kernel, rfl⟩
theorem d_M_sizeOfIndex_5 : gD m_M_sizeOfIndex 5 (.aload_n 0) 1 6 := ⟨by decide +kernel, rfl⟩
theorem d_M_sizeOfIndex_6 : gD m_M_sizeOfIndex 6 (.invokevirtual 120) 3 9 := ⟨by decide +kernel, rfl⟩
theorem d_M_sizeOfIndex_9 : gD m_M_sizeOfIndex 9 (.istore_n 2) 1 10 := ⟨by decide +kernel, rfl⟩
theorem d_M_sizeOfIndex_10 : gD m_M_sizeOfIndex 10 (.iload_n 2) 1 11 := ⟨by decide +kernel, rfl⟩
theorem d_M_sizeOfIndex_11 : gD m_M_sizeOfIndex 11 (.iconst 1) 1 12 := ⟨by decide +kernel, rfl⟩
theorem d_M_sizeOfIndex_12 : gD m_M_sizeOfIndex 12 (.if_icmp .le 18) 3 15 := ⟨by decide +kernel, rfl⟩
theorem d_M_sizeOfIndex_15 : gD m_M_sizeOfIndex 15 (.iload_n 1) 1 16 := ⟨by decide +kernel, rfl⟩
theorem d_M_sizeOfIndex_16 : gD m_M_sizeOfIndex 16 (.iload_n 2) 1 17 := ⟨by decide +kernel, rfl⟩
theorem d_M_sizeOfIndex_17 : gD m_M_sizeOfIndex 17 (.invokestatic 116) 3 20 := ⟨by decide +kernel, rfl⟩
theorem d_M_sizeOfIndex_20 : gD m_M_sizeOfIndex 20 .iadd 1 21 := ⟨by decide +kernel, rfl⟩
theorem d_M_sizeOfIndex_21 : gD m_M_sizeOfIndex 21 (.istore_n 1) 1 22 := ⟨by decide +kernel, rfl⟩
theorem d_M_sizeOfIndex_22 : gD m_M_sizeOfIndex 22 (.iload_n 2) 1 23 := ⟨by decide +kernel, rfl⟩
theorem d_M_sizeOfIndex_23 : gD m_M_sizeOfIndex 23 (.invokestatic 116) 3 26 := ⟨by decide +kernel, rfl⟩
theorem d_M_sizeOfIndex_26 : gD m_M_sizeOfIndex 26 (.istore_n 2) 1 27 := ⟨by decide +kernel, rfl⟩
theorem d_M_sizeOfIndex_27 : gD m_M_sizeOfIndex 27 (.goto (-17)) 3 30 := ⟨by decide +kernel, rfl⟩
theorem d_M_sizeOfIndex_30 : gD m_M_sizeOfIndex 30 (.iload_n 1) 1 31 := ⟨by decide +kernel, rfl⟩
theorem d_M_sizeOfIndex_31 : gD m_M_sizeOfIndex 31 .ireturn 1 32 := ⟨by decide +kernel, rfl⟩
theorem d_M_sort_0 : gD m_M_sort 0 (.aload_n 0) 1 1 := ⟨by decide +kernel, rfl⟩
theorem d_M_sort_1 : gD m_M_sort 1 (.iconst 0) 1 2 := ⟨by decide +kernel, rfl⟩
theorem d_M_sort_2 : gD m_M_sort 2 (.putfield 105) 3 5 := ⟨by decide +kernel, rfl⟩
theorem d_M_sort_5 : gD m_M_sort 5 (.iconst 0) 1 6 := ⟨by decide +kernel, rfl⟩
theorem d_M_sort_6 : gD m_M_sort 6 (.istore_n 3) 1 7 := ⟨by decide +kernel, rfl⟩
theorem d_M_sort_7 : gD m_M_sort 7 (.iload_n 3) 1 8 := ⟨by decide +kernel, rfl⟩
theorem d_M_sort_8 : gD m_M_sort 8 (.aload_n 0) 1 9 := ⟨by decide +kernel, rfl⟩
theorem d_M_sort_9 : gD m_M_sort 9 (.getfield 75) 3 12 := ⟨by decide +kernel, rfl⟩
theorem d_M_sort_12 : gD m_M_sort 12 (.if_icmp .ge 88) 3 15 := ⟨by decide +kernel, rfl⟩
theorem d_M_sort_15 : gD m_M_sort 15 (.aload_n 0) 1 16 := ⟨by decide +kernel, rfl⟩
theorem d_M_sort_16 : gD m_M_sort 16 (.getfield 7) 3 19 := ⟨by decide +kernel, rfl⟩
theorem d_M_sort_19 : gD m_M_sort 19 (.iload_n 3) 1 20 := ⟨by decide +kernel, rfl⟩
theorem d_M_sort_20 : gD m_M_sort 20 .baload 1 21 := ⟨by decide +kernel, rfl⟩
theorem d_M_sort_21 : gD m_M_sort 21 (.ifCond .eq 73) 3 24 := ⟨by decide +kernel, rfl⟩
theorem d_M_sort_24 : gD m_M_sort 24 (.aload_n 0) 1 25 := ⟨by decide +kernel, rfl⟩
theorem d_M_sort_25 : gD m_M_sort 25 (.getfield 105) 3 28 := ⟨by decide +kernel, rfl⟩
theorem d_M_sort_28 : gD m_M_sort 28 (.istore 4) 2 30 := ⟨by decide +kernel, rfl⟩
theorem d_M_sort_30 : gD m_M_sort 30 (.iload 4) 2 32 := ⟨by decide +kernel, rfl⟩
theorem d_M_sort_32 : gD m_M_sort 32 (.ifCond .le 44) 3 35 := ⟨by decide +kernel, rfl⟩
theorem d_M_sort_35 : gD m_M_sort 35 (.aload_n 0) 1 36 := ⟨by decide +kernel, rfl⟩
theorem d_M_sort_36 : gD m_M_sort 36 (.iload_n 3) 1 37 := ⟨by decide +kernel, rfl⟩
theorem d_M_sort_37 : gD m_M_sort 37 (.aload_n 0) 1 38 := ⟨by decide +kernel, rfl⟩
theorem d_M_sort_38 : gD m_M_sort 38 (.getfield 63) 3 41 := ⟨by decide +kernel, rfl⟩
theorem d_M_sort_41 : gD m_M_sort 41 (.iload 4) 2 43 := ⟨by decide +kernel, rfl⟩
theorem d_M_sort_43 : gD m_M_sort 43 (.iconst 1) 1 44 := ⟨by decide +kernel, rfl⟩
theorem d_M_sort_44 : gD m_M_sort 44 .isub 1 45 := ⟨by decide +kernel, rfl⟩
theorem d_M_sort_45 : gD m_M_sort 45 .iaload 1 46 := ⟨by decide +kernel, rfl⟩
theorem d_M_sort_46 : gD m_M_sort 46 (.iload_n 1) 1 47 := ⟨by decide +kernel, rfl⟩
theorem d_M_sort_47 : gD m_M_sort 47 (.iload_n 2) 1 48 := ⟨by decide +kernel, rfl⟩
theorem d_M_sort_48 : gD m_M_sort 48 (.invokevirtual 108) 3 51 := ⟨by decide +kernel, rfl⟩
theorem d_M_sort_51 : gD m_M_sort 51 (.ifCond .eq 25) 3 54 := ⟨by decide +kernel, rfl⟩
theorem d_M_sort_54 : gD m_M_sort 54 (.aload_n 0) 1 55 := ⟨by decide +kernel, rfl⟩
theorem d_M_sort_55 : gD m_M_sort 55 (.getfield 63) 3 58 := ⟨by decide +kernel, rfl⟩
theorem d_M_sort_58 : gD m_M_sort 58 (.iload 4) 2 60 := ⟨by decide +kernel, rfl⟩
theorem d_M_sort_60 : gD m_M_sort 60 (.aload_n 0) 1 61 := ⟨by decide +kernel, rfl⟩
theorem d_M_sort_61 : gD m_M_sort 61 (.getfield 63) 3 64 := ⟨by decide +kernel, rfl⟩
theorem d_M_sort_64 : gD m_M_sort 64 (.iload 4) 2 66 := ⟨by decide +kernel, rfl⟩
theorem d_M_sort_66 : gD m_M_sort 66 (.iconst 1) 1 67 := ⟨by decide +kernel, rfl⟩
theorem d_M_sort_67 : gD m_M_sort 67 .isub 1 68 := ⟨by decide +kernel, rfl⟩
theorem d_M_sort_68 : gD m_M_sort 68 .iaload 1 69 := ⟨by decide +kernel, rfl⟩
theorem d_M_sort_69 : gD m_M_sort 69 .iastore 1 70 := ⟨by decide +kernel, rfl⟩
theorem d_M_sort_70 : gD m_M_sort 70 (.iinc 4 (-1)) 3 73 := ⟨by decide +kernel, rfl⟩
theorem d_M_sort_73 : gD m_M_sort 73 (.goto (-43)) 3 76 := ⟨by decide +kernel, rfl⟩
theorem d_M_sort_76 : gD m_M_sort 76 (.aload_n 0) 1 77 := ⟨by decide +kernel, rfl⟩
theorem d_M_sort_77 : gD m_M_sort 77 (.getfield 63) 3 80 := ⟨by decide +kernel, rfl⟩
theorem d_M_sort_80 : gD m_M_sort 80 (.iload 4) 2 82 := ⟨by decide +kernel, rfl⟩
theorem d_M_sort_82 : gD m_M_sort 82 (.iload_n 3) 1 83 := ⟨by decide +kernel, rfl⟩
theorem d_M_sort_83 : gD m_M_sort 83 .iastore 1 84 := ⟨by decide +kernel, rfl⟩
theorem d_M_sort_84 : gD m_M_sort 84 (.aload_n 0) 1 85 := ⟨by decide +kernel, rfl⟩
theorem d_M_sort_85 : gD m_M_sort 85 .dup 1 86 := ⟨by decide +kernel, rfl⟩
theorem d_M_sort_86 : gD m_M_sort 86 (.getfield 105) 3 89 := ⟨by decide +kernel, rfl⟩
theorem d_M_sort_89 : gD m_M_sort 89 (.iconst 1) 1 90 := ⟨by decide +kernel, rfl⟩
theorem d_M_sort_90 : gD m_M_sort 90 .iadd 1 91 := ⟨by decide +kernel, rfl⟩
theorem d_M_sort_91 : gD m_M_sort 91 (.putfield 105) 3 94 := ⟨by decide +kernel, rfl⟩
theorem d_M_sort_94 : gD m_M_sort 94 (.iinc 3 1) 3 97 := ⟨by decide +kernel, rfl⟩
theorem d_M_sort_97 : gD m_M_sort 97 (.goto (-90)) 3 100 := ⟨by decide +kernel, rfl⟩
theorem d_M_sort_100 : gD m_M_sort 100 .return_ 1 101 := ⟨by decide +kernel, rfl⟩
theorem d_M_isBefore_0 : gD m_M_isBefore 0 (.aload_n 0) 1 1 := ⟨by decide +kernel, rfl⟩
theorem d_M_isBefore_1 : gD m_M_isBefore 1 (.iload_n 1) 1 2 := ⟨by decide +kernel, rfl⟩
theorem d_M_isBefore_2 : gD m_M_isBefore 2 (.iload_n 3) 1 3 := ⟨by decide +kernel, rfl⟩
theorem d_M_isBefore_3 : gD m_M_isBefore 3 (.invokevirtual 101) 3 6 := ⟨by decide +kernel, rfl⟩
theorem d_M_isBefore_6 : gD m_M_isBefore 6 (.istore 5) 2 8 := ⟨by decide +kernel, rfl⟩
theorem d_M_isBefore_8 : gD m_M_isBefore 8 (.aload_n 0) 1 9 := ⟨by decide +kernel, rfl⟩
theorem d_M_isBefore_9 : gD m_M_isBefore 9 (.iload_n 2) 1 10 := ⟨by decide +kernel, rfl⟩
theorem d_M_isBefore_10 : gD m_M_isBefore 10 (.iload_n 3) 1 11 := ⟨by decide +kernel, rfl⟩
theorem d_M_isBefore_11 : gD m_M_isBefore 11 (.invokevirtual 101) 3 14 := ⟨by decide +kernel, rfl⟩
theorem d_M_isBefore_14 : gD m_M_isBefore 14 (.istore 6) 2 16 := ⟨by decide +kernel, rfl⟩
theorem d_M_isBefore_16 : gD m_M_isBefore 16 (.iload 5) 2 18 := ⟨by decide +kernel, rfl⟩
theorem d_M_isBefore_18 : gD m_M_isBefore 18 (.iload 6) 2 20 := ⟨by decide +kernel, rfl⟩
theorem d_M_isBefore_20 : gD m_M_isBefore 20 (.if_icmp .eq 16) 3 23 := ⟨by decide +kernel, rfl⟩
theorem d_M_isBefore_23 : gD m_M_isBefore 23 (.iload 5) 2 25 := ⟨by decide +kernel, rfl⟩
theorem d_M_isBefore_25 : gD m_M_isBefore 25 (.iload 6) 2 27 := ⟨by decide +kernel, rfl⟩
theorem d_M_isBefore_27 : gD m_M_isBefore 27 (.if_icmp .ge 7) 3 30 := ⟨by decide +kernel, rfl⟩
theorem d_M_isBefore_30 : gD m_M_isBefore 30 (.iconst 1) 1 31 := ⟨by decide +kernel, rfl⟩
theorem d_M_isBefore_31 : gD m_M_isBefore 31 (.goto 4) 3 34 := ⟨by decide +kernel, rfl⟩
theorem d_M_isBefore_34 : gD m_M_isBefore 34 (.iconst 0) 1 35 := ⟨by decide +kernel, rfl⟩
theorem d_M_isBefore_35 : gD m_M_isBefore 35 .ireturn 1 36 := ⟨by decide +kernel, rfl⟩
theorem d_M_isBefore_36 : gD m_M_isBefore 36 (.aload_n 0) 1 37 := ⟨by decide +kernel, rfl⟩
theorem d_M_isBefore_37 : gD m_M_isBefore 37 (.iload_n 1) 1 38 := ⟨by decide +kernel, rfl⟩
theorem d_M_isBefore_38 : gD m_M_isBefore 38 (.iload 4) 2 40 := ⟨by decide +kernel, rfl⟩
theorem d_M_isBefore_40 : gD m_M_isBefore 40 (.invokevirtual 101) 3 43 := ⟨by decide +kernel, rfl⟩
theorem d_M_isBefore_43 : gD m_M_isBefore 43 (.istore 5) 2 45 := ⟨by decide +kernel, rfl⟩
theorem d_M_isBefore_45 : gD m_M_isBefore 45 (.aload_n 0) 1 46 := ⟨by decide +kernel, rfl⟩
theorem d_M_isBefore_46 : gD m_M_isBefore 46 (.iload_n 2) 1 47 := ⟨by decide +kernel, rfl⟩
theorem d_M_isBefore_47 : gD m_M_isBefore 47 (.iload 4) 2 49 := ⟨by decide +kernel, rfl⟩
theorem d_M_isBefore_49 : gD m_M_isBefore 49 (.invokevirtual 101) 3 52 := ⟨by decide +kernel, rfl⟩
theorem d_M_isBefore_52 : gD m_M_isBefore 52 (.istore 6) 2 54 := ⟨by decide +kernel, rfl⟩
theorem d_M_isBefore_54 : gD m_M_isBefore 54 (.iload 5) 2 56 := ⟨by decide +kernel, rfl⟩
theorem d_M_isBefore_56 : gD m_M_isBefore 56 (.iload 6) 2 58 := ⟨by decide +kernel, rfl⟩
theorem d_M_isBefore_58 : gD m_M_isBefore 58 (.if_icmp .eq 18) 3 61 := ⟨by decide +kernel, rfl⟩
theorem d_M_isBefore_61 : gD m_M_isBefore 61 (.iload 5) 2 63 := ⟨by decide +kernel, rfl⟩
theorem d_M_isBefore_63 : gD m_M_isBefore 63 (.iload 6) 2 65 := ⟨by decide +kernel, rfl⟩
theorem d_M_isBefore_65 : gD m_M_isBefore 65 (.if_icmp .ge 7) 3 68 := ⟨by decide +kernel, rfl⟩
theorem d_M_isBefore_68 : gD m_M_isBefore 68 (.iconst 1) 1 69 := ⟨by decide +kernel, rfl⟩
theorem d_M_isBefore_69 : gD m_M_isBefore 69 (.goto 17) 3 72 := ⟨by decide +kernel, rfl⟩
theorem d_M_isBefore_72 : gD m_M_isBefore 72 (.iconst 0) 1 73 := ⟨by decide +kernel, rfl⟩
theorem d_M_isBefore_73 : gD m_M_isBefore 73 (.goto 13) 3 76 := ⟨by decide +kernel, rfl⟩
theorem d_M_isBefore_76 : gD m_M_isBefore 76 (.iload_n 1) 1 77 := ⟨by decide +kernel, rfl⟩
theorem d_M_isBefore_77 : gD m_M_isBefore 77 (.iload_n 2) 1 78 := ⟨by decide +kernel, rfl⟩
theorem d_M_isBefore_78 : gD m_M_isBefore 78 (.if_icmp .ge 7) 3 81 := ⟨by decide +kernel, rfl⟩
theorem d_M_isBefore_81 : gD m_M_isBefore 81 (.iconst 1) 1 82 := ⟨by decide +kernel, rfl⟩
theorem d_M_isBefore_82 : gD m_M_isBefore 82 (.goto 4) 3 85 := ⟨by decide +kernel, rfl⟩
theorem d_M_isBefore_85 : gD m_M_isBefore 85 (.iconst 0) 1 86 := ⟨by decide +kernel, rfl⟩
theorem d_M_isBefore_86 : gD m_M_isBefore 86 .ireturn 1 87 := ⟨by decide +kernel, rfl⟩
theorem d_M_of_0 : gD m_M_of 0 (.iload_n 2) 1 1 := ⟨by decide +kernel, rfl⟩
theorem d_M_of_1 : gD m_M_of 1 (.ifCond .ge 7) 3 4 := ⟨by decide +kernel, rfl⟩
theorem d_M_of_4 : gD m_M_of 4 (.iconst 0) 1 5 := ⟨by decide +kernel, rfl⟩
theorem d_M_of_5 : gD m_M_of 5 (.goto 13) 3 8 := ⟨by decide +kernel, rfl⟩
theorem d_M_of_8 : gD m_M_of 8 (.aload_n 0) 1 9 := ⟨by decide +kernel, rfl⟩
theorem d_M_of_9 : gD m_M_of 9 (.getfield 13) 3 12 := ⟨by decide +kernel, rfl⟩
theorem d_M_of_12 : gD m_M_of 12 (.iconst 3) 1 13 := ⟨by decide +kernel, rfl⟩
theorem d_M_of_13 : gD m_M_of 13 (.iload_n 1) 1 14 := ⟨by decide +kernel, rfl⟩
theorem d_M_of_14 : gD m_M_of 14 .imul 1 15 := ⟨by decide +kernel, rfl⟩
theorem d_M_of_15 : gD m_M_of 15 (.iload_n 2) 1 16 := ⟨by decide +kernel, rfl⟩
theorem d_M_of_16 : gD m_M_of 16 .iadd 1 17 := ⟨by decide +kernel, rfl⟩
theorem d_M_of_17 : gD m_M_of 17 .iaload 1 18 := ⟨by decide +kernel, rfl⟩
theorem d_M_of_18 : gD m_M_of 18 .ireturn 1 19 := ⟨by decide +kernel, rfl⟩
theorem d_M_cost_0 : gD m_M_cost 0 (.aload_n 0) 1 1 := ⟨by decide +kernel, rfl⟩
theorem d_M_cost_1 : gD m_M_cost 1 (.iload_n 1) 1 2 := ⟨by decide +kernel, rfl⟩
theorem d_M_cost_2 : gD m_M_cost 2 (.iconst (-1)) 1 3 := ⟨by decide +kernel, rfl⟩
theorem d_M_cost_3 : gD m_M_cost 3 (.if_icmp .eq 10) 3 6 := ⟨by decide +kernel, rfl⟩
theorem d_M_cost_6 : gD m_M_cost 6 (.iload_n 1) 1 7 := ⟨by decide +kernel, rfl⟩
theorem d_M_cost_7 : gD m_M_cost 7 (.invokestatic 123) 3 10 := ⟨by decide +kernel, rfl⟩
theorem d_M_cost_10 : gD m_M_cost 10 (.ifCond .eq 7) 3 13 := ⟨by decide +kernel, rfl⟩
theorem d_M_cost_13 : gD m_M_cost 13 (.iconst 0) 1 14 := ⟨by decide +kernel, rfl⟩
theorem d_M_cost_14 : gD m_M_cost 14 (.goto 4) 3 17 := ⟨by decide +kernel, rfl⟩
theorem d_M_cost_17 : gD m_M_cost 17 (.iconst 1) 1 18 := ⟨by decide +kernel, rfl⟩
theorem d_M_cost_18 : gD m_M_cost 18 (.putfield 72) 3 21 := ⟨by decide +kernel, rfl⟩
theorem d_M_cost_21 : gD m_M_cost 21 (.aload_n 0) 1 22 := ⟨by decide +kernel, rfl⟩
theorem d_M_cost_22 : gD m_M_cost 22 (.getfield 72) 3 25 := ⟨by decide +kernel, rfl⟩
theorem d_M_cost_25 : gD m_M_cost 25 (.ifCond .le 5) 3 28 := ⟨by decide +kernel, rfl⟩
theorem d_M_cost_28 : gD m_M_cost 28 (.iconst 0) 1 29 := ⟨by decide +kernel, rfl⟩
theorem d_M_cost_29 : gD m_M_cost 29 .ireturn 1 30 := ⟨by decide +kernel, rfl⟩
theorem d_M_cost_30 : gD m_M_cost 30 (.iload_n 1) 1 31 := ⟨by decide +kernel, rfl⟩
theorem d_M_cost_31 : gD m_M_cost 31 (.iconst (-1)) 1 32 := ⟨by decide +kernel, rfl⟩
theorem d_M_cost_32 : gD m_M_cost 32 (.if_icmp .ne 10) 3 35 := ⟨by decide +kernel, rfl⟩
theorem d_M_cost_35 : gD m_M_cost 35 (.aload_n 0) 1 36 := ⟨by decide +kernel, rfl⟩
theorem d_M_cost_36 : gD m_M_cost 36 (.invokevirtual 162) 3 39 := ⟨by decide +kernel, rfl⟩
theorem d_M_cost_39 : gD m_M_cost 39 (.goto 22) 3 42 := ⟨by decide +kernel, rfl⟩
theorem d_M_cost_42 : gD m_M_cost 42 (.aload_n 0) 1 43 := ⟨by decide +kernel, rfl⟩
theorem d_M_cost_43 : gD m_M_cost 43 (.iconst 0) 1 44 := ⟨by decide +kernel, rfl⟩
theorem d_M_cost_44 : gD m_M_cost 44 (.iload_n 1) 1 45 := ⟨by decide +kernel, rfl⟩
theorem d_M_cost_45 : gD m_M_cost 45 (.invokevirtual 165) 3 48 := ⟨by decide +kernel, rfl⟩
theorem d_M_cost_48 : gD m_M_cost 48 (.ifCond .eq 12) 3 51 := ⟨by decide +kernel, rfl⟩
theorem d_M_cost_51 : gD m_M_cost 51 (.aload_n 0) 1 52 := ⟨by decide +kernel, rfl⟩
theorem d_M_cost_52 : gD m_M_cost 52 (.iconst 0) 1 53 := ⟨by decide +kernel, rfl⟩
theorem d_M_cost_53 : gD m_M_cost 53 (.iload_n 1) 1 54 := ⟨by decide +kernel, rfl⟩
theorem d_M_cost_54 : gD m_M_cost 54 (.invokevirtual 168) 3 57 := ⟨by decide +kernel, rfl⟩
theorem d_M_cost_57 : gD m_M_cost 57 (.goto 4) 3 60 := ⟨by decide +kernel, rfl⟩
theorem d_M_cost_60 : gD m_M_cost 60 (.iconst (-1)) 1 61 := ⟨by decide +kernel, rfl⟩
theorem d_M_cost_61 : gD m_M_cost 61 .ireturn 1 62 := ⟨by decide +kernel, rfl⟩
theorem d_M_heapPages_0 : gD m_M_heapPages 0 (.aload_n 0) 1 1 := ⟨by decide +kernel, rfl⟩
theorem d_M_heapPages_1 : gD m_M_heapPages 1 (.getfield 75) 3 4 := ⟨by decide +kernel, rfl⟩
theorem d_M_heapPages_4 : gD m_M_heapPages 4 (.iconst 3) 1 5 := ⟨by decide +kernel, rfl⟩
theorem d_M_heapPages_5 : gD m_M_heapPages 5 .iadd 1 6 := ⟨by decide +kernel, rfl⟩
theorem d_M_heapPages_6 : gD m_M_heapPages 6 (.iconst 4) 1 7 := ⟨by decide +kernel, rfl⟩
theorem d_M_heapPages_7 : gD m_M_heapPages 7 .idiv 1 8 := ⟨by decide +kernel, rfl⟩
theorem d_M_heapPages_8 : gD m_M_heapPages 8 .ireturn 1 9 := ⟨by decide +kernel, rfl⟩
theorem d_M_isWay_0 : gD m_M_isWay 0 (.aload_n 0) 1 1 := ⟨by decide +kernel, rfl⟩
theorem d_M_isWay_1 : gD m_M_isWay 1 (.getfield 30) 3 4 := ⟨by decide +kernel, rfl⟩
theorem d_M_isWay_4 : gD m_M_isWay 4 (.iconst 3) 1 5 := ⟨by decide +kernel, rfl⟩
theorem d_M_isWay_5 : gD m_M_isWay 5 (.iload_n 1) 1 6 := ⟨by decide +kernel, rfl⟩
theorem d_M_isWay_6 : gD m_M_isWay 6 .imul 1 7 := ⟨by decide +kernel, rfl⟩
theorem d_M_isWay_7 : gD m_M_isWay 7 (.aload_n 0) 1 8 := ⟨by decide +kernel, rfl⟩
theorem d_M_isWay_8 : gD m_M_isWay 8 (.getfield 17) 3 11 := ⟨by decide +kernel, rfl⟩
theorem d_M_isWay_11 : gD m_M_isWay 11 (.iload_n 2) 1 12 := ⟨by decide +kernel, rfl⟩
theorem d_M_isWay_12 : gD m_M_isWay 12 .iaload 1 13 := ⟨by decide +kernel, rfl⟩
theorem d_M_isWay_13 : gD m_M_isWay 13 .iadd 1 14 := ⟨by decide +kernel, rfl⟩
theorem d_M_isWay_14 : gD m_M_isWay 14 .iaload 1 15 := ⟨by decide +kernel, rfl⟩
theorem d_M_isWay_15 : gD m_M_isWay 15 (.ifCond .le 7) 3 18 := ⟨by decide +kernel, rfl⟩
theorem d_M_isWay_18 : gD m_M_isWay 18 (.iconst 1) 1 19 := ⟨by decide +kernel, rfl⟩
theorem d_M_isWay_19 : gD m_M_isWay 19 (.goto 4) 3 22 := ⟨by decide +kernel, rfl⟩
theorem d_M_isWay_22 : gD m_M_isWay 22 (.iconst 0) 1 23 := ⟨by decide +kernel, rfl⟩
theorem d_M_isWay_23 : gD m_M_isWay 23 .ireturn 1 24 := ⟨by decide +kernel, rfl⟩
theorem d_M_costBy_0 : gD m_M_costBy 0 (.aload_n 0) 1 1 := ⟨by decide +kernel, rfl⟩
theorem d_M_costBy_1 : gD m_M_costBy 1 (.iload_n 1) 1 2 := ⟨by decide +kernel, rfl⟩
theorem d_M_costBy_2 : gD m_M_costBy 2 (.iload_n 2) 1 3 := ⟨by decide +kernel, rfl⟩
theorem d_M_costBy_3 : gD m_M_costBy 3 (.invokevirtual 156) 3 6 := ⟨by decide +kernel, rfl⟩
theorem d_M_costBy_6 : gD m_M_costBy 6 (.aload_n 0) 1 7 := ⟨by decide +kernel, rfl⟩
theorem d_M_costBy_7 : gD m_M_costBy 7 (.invokevirtual 126) 3 10 := ⟨by decide +kernel, rfl⟩
theorem d_M_costBy_10 : gD m_M_costBy 10 (.aload_n 0) 1 11 := ⟨by decide +kernel, rfl⟩
theorem d_M_costBy_11 : gD m_M_costBy 11 (.invokevirtual 159) 3 14 := ⟨by decide +kernel, rfl⟩
theorem d_M_costBy_14 : gD m_M_costBy 14 .iadd 1 15 := ⟨by decide +kernel, rfl⟩
theorem d_M_costBy_15 : gD m_M_costBy 15 (.aload_n 0) 1 16 := ⟨by decide +kernel, rfl⟩
theorem d_M_costBy_16 : gD m_M_costBy 16 (.getfield 150) 3 19 := ⟨by decide +kernel, rfl⟩
theorem d_M_costBy_19 : gD m_M_costBy 19 .iadd 1 20 := ⟨by decide +kernel, rfl⟩
theorem d_M_costBy_20 : gD m_M_costBy 20 (.aload_n 0) 1 21 := ⟨by decide +kernel, rfl⟩
theorem d_M_costBy_21 : gD m_M_costBy 21 (.getfield 144) 3 24 := ⟨by decide +kernel, rfl⟩
theorem d_M_costBy_24 : gD m_M_costBy 24 .isub 1 25 := ⟨by decide +kernel, rfl⟩
theorem d_M_costBy_25 : gD m_M_costBy 25 .ireturn 1 26 := ⟨by decide +kernel, rfl⟩
theorem d_M_stretch_0 : gD m_M_stretch 0 (.aload_n 0) 1 1 := ⟨by decide +kernel, rfl⟩
theorem d_M_stretch_1 : gD m_M_stretch 1 (.aload_n 0) 1 2 := ⟨by decide +kernel, rfl⟩
theorem d_M_stretch_2 : gD m_M_stretch 2 (.getfield 17) 3 5 := ⟨by decide +kernel, rfl⟩
theorem d_M_stretch_5 : gD m_M_stretch 5 (.iload_n 2) 1 6 := ⟨by decide +kernel, rfl⟩
theorem d_M_stretch_6 : gD m_M_stretch 6 .iaload 1 7 := ⟨by decide +kernel, rfl⟩
theorem d_M_stretch_7 : gD m_M_stretch 7 (.aload_n 0) 1 8 := ⟨by decide +kernel, rfl⟩
theorem d_M_stretch_8 : gD m_M_stretch 8 (.getfield 20) 3 11 := ⟨by decide +kernel, rfl⟩
theorem d_M_stretch_11 : gD m_M_stretch 11 (.iload_n 2) 1 12 := ⟨by decide +kernel, rfl⟩
theorem d_M_stretch_12 : gD m_M_stretch 12 .iaload 1 13 := ⟨by decide +kernel, rfl⟩
theorem d_M_stretch_13 : gD m_M_stretch 13 (.invokevirtual 132) 3 16 := ⟨by decide +kernel, rfl⟩
theorem d_M_stretch_16 : gD m_M_stretch 16 (.aload_n 0) 1 17 := ⟨by decide +kernel, rfl⟩
theorem d_M_stretch_17 : gD m_M_stretch 17 (.iconst 0) 1 18 := ⟨by decide +kernel, rfl⟩
theorem d_M_stretch_18 : gD m_M_stretch 18 (.putfield 144) 3 21 := ⟨by decide +kernel, rfl⟩
theorem d_M_stretch_21 : gD m_M_stretch 21 (.aload_n 0) 1 22 := ⟨by decide +kernel, rfl⟩
theorem d_M_stretch_22 : gD m_M_stretch 22 (.getfield 144) 3 25 := ⟨by decide +kernel, rfl⟩
theorem d_M_stretch_25 : gD m_M_stretch 25 (.aload_n 0) 1 26 := ⟨by decide +kernel, rfl⟩
theorem d_M_stretch_26 : gD m_M_stretch 26 (.getfield 105) 3 29 := ⟨by decide +kernel, rfl⟩
theorem d_M_stretch_29 : gD m_M_stretch 29 (.if_icmp .ge 34) 3 32 := ⟨by decide +kernel, rfl⟩
theorem d_M_stretch_32 : gD m_M_stretch 32 (.aload_n 0) 1 33 := ⟨by decide +kernel, rfl⟩
theorem d_M_stretch_33 : gD m_M_stretch 33 (.aload_n 0) 1 34 := ⟨by decide +kernel, rfl⟩
theorem d_M_stretch_34 : gD m_M_stretch 34 (.getfield 63) 3 37 := ⟨by decide +kernel, rfl⟩
theorem d_M_stretch_37 : gD m_M_stretch 37 (.aload_n 0) 1 38 := ⟨by decide +kernel, rfl⟩
theorem d_M_stretch_38 : gD m_M_stretch 38 (.getfield 144) 3 41 := ⟨by decide +kernel, rfl⟩
theorem d_M_stretch_41 : gD m_M_stretch 41 .iaload 1 42 := ⟨by decide +kernel, rfl⟩
theorem d_M_stretch_42 : gD m_M_stretch 42 (.iload_n 1) 1 43 := ⟨by decide +kernel, rfl⟩
theorem d_M_stretch_43 : gD m_M_stretch 43 (.iload_n 2) 1 44 := ⟨by decide +kernel, rfl⟩
theorem d_M_stretch_44 : gD m_M_stretch 44 (.invokevirtual 147) 3 47 := ⟨by decide +kernel, rfl⟩
theorem d_M_stretch_47 : gD m_M_stretch 47 (.ifCond .eq 16) 3 50 := ⟨by decide +kernel, rfl⟩
theorem d_M_stretch_50 : gD m_M_stretch 50 (.aload_n 0) 1 51 := ⟨by decide +kernel, rfl⟩
theorem d_M_stretch_51 : gD m_M_stretch 51 .dup 1 52 := ⟨by decide +kernel, rfl⟩
theorem d_M_stretch_52 : gD m_M_stretch 52 (.getfield 144) 3 55 := ⟨by decide +kernel, rfl⟩
theorem d_M_stretch_55 : gD m_M_stretch 55 (.iconst 1) 1 56 := ⟨by decide +kernel, rfl⟩
theorem d_M_stretch_56 : gD m_M_stretch 56 .iadd 1 57 := ⟨by decide +kernel, rfl⟩
theorem d_M_stretch_57 : gD m_M_stretch 57 (.putfield 144) 3 60 := ⟨by decide +kernel, rfl⟩
theorem d_M_stretch_60 : gD m_M_stretch 60 (.goto (-39)) 3 63 := ⟨by decide +kernel, rfl⟩
theorem d_M_stretch_63 : gD m_M_stretch 63 (.aload_n 0) 1 64 := ⟨by decide +kernel, rfl⟩
theorem d_M_stretch_64 : gD m_M_stretch 64 (.aload_n 0) 1 65 := ⟨by decide +kernel, rfl⟩
theorem d_M_stretch_65 : gD m_M_stretch 65 (.getfield 144) 3 68 := ⟨by decide +kernel, rfl⟩
theorem d_M_stretch_68 : gD m_M_stretch 68 (.putfield 150) 3 71 := ⟨by decide +kernel, rfl⟩
theorem d_M_stretch_71 : gD m_M_stretch 71 (.aload_n 0) 1 72 := ⟨by decide +kernel, rfl⟩
theorem d_M_stretch_72 : gD m_M_stretch 72 (.getfield 150) 3 75 := ⟨by decide +kernel, rfl⟩
theorem d_M_stretch_75 : gD m_M_stretch 75 (.aload_n 0) 1 76 := ⟨by decide +kernel, rfl⟩
theorem d_M_stretch_76 : gD m_M_stretch 76 (.getfield 105) 3 79 := ⟨by decide +kernel, rfl⟩
theorem d_M_stretch_79 : gD m_M_stretch 79 (.if_icmp .ge 34) 3 82 := ⟨by decide +kernel, rfl⟩
theorem d_M_stretch_82 : gD m_M_stretch 82 (.aload_n 0) 1 83 := ⟨by decide +kernel, rfl⟩
theorem d_M_stretch_83 : gD m_M_stretch 83 (.aload_n 0) 1 84 := ⟨by decide +kernel, rfl⟩
theorem d_M_stretch_84 : gD m_M_stretch 84 (.getfield 63) 3 87 := ⟨by decide +kernel, rfl⟩
theorem d_M_stretch_87 : gD m_M_stretch 87 (.aload_n 0) 1 88 := ⟨by decide +kernel, rfl⟩
theorem d_M_stretch_88 : gD m_M_stretch 88 (.getfield 150) 3 91 := ⟨by decide +kernel, rfl⟩
theorem d_M_stretch_91 : gD m_M_stretch 91 .iaload 1 92 := ⟨by decide +kernel, rfl⟩
theorem d_M_stretch_92 : gD m_M_stretch 92 (.iload_n 1) 1 93 := ⟨by decide +kernel, rfl⟩
theorem d_M_stretch_93 : gD m_M_stretch 93 (.iload_n 2) 1 94 := ⟨by decide +kernel, rfl⟩
theorem d_M_stretch_94 : gD m_M_stretch 94 (.invokevirtual 153) 3 97 := ⟨by decide +kernel, rfl⟩
theorem d_M_stretch_97 : gD m_M_stretch 97 (.ifCond .eq 16) 3 100 := ⟨by decide +kernel, rfl⟩
theorem d_M_stretch_100 : gD m_M_stretch 100 (.aload_n 0) 1 101 := ⟨by decide +kernel, rfl⟩
theorem d_M_stretch_101 : gD m_M_stretch 101 .dup 1 102 := ⟨by decide +kernel, rfl⟩
theorem d_M_stretch_102 : gD m_M_stretch 102 (.getfield 150) 3 105 := ⟨by decide +kernel, rfl⟩
theorem d_M_stretch_105 : gD m_M_stretch 105 (.iconst 1) 1 106 := ⟨by decide +kernel, rfl⟩
theorem d_M_stretch_106 : gD m_M_stretch 106 .iadd 1 107 := ⟨by decide +kernel, rfl⟩
theorem d_M_stretch_107 : gD m_M_stretch 107 (.putfield 150) 3 110 := ⟨by decide +kernel, rfl⟩
theorem d_M_stretch_110 : gD m_M_stretch 110 (.goto (-39)) 3 113 := ⟨by decide +kernel, rfl⟩
theorem d_M_stretch_113 : gD m_M_stretch 113 .return_ 1 114 := ⟨by decide +kernel, rfl⟩
theorem d_M_isAhead_0 : gD m_M_isAhead 0 (.aload_n 0) 1 1 := ⟨by decide +kernel, rfl⟩
theorem d_M_isAhead_1 : gD m_M_isAhead 1 (.getfield 17) 3 4 := ⟨by decide +kernel, rfl⟩
theorem d_M_isAhead_4 : gD m_M_isAhead 4 (.iload_n 3) 1 5 := ⟨by decide +kernel, rfl⟩
theorem d_M_isAhead_5 : gD m_M_isAhead 5 .iaload 1 6 := ⟨by decide +kernel, rfl⟩
theorem d_M_isAhead_6 : gD m_M_isAhead 6 (.istore 4) 2 8 := ⟨by decide +kernel, rfl⟩
theorem d_M_isAhead_8 : gD m_M_isAhead 8 (.aload_n 0) 1 9 := ⟨by decide +kernel, rfl⟩
theorem d_M_isAhead_9 : gD m_M_isAhead 9 (.getfield 20) 3 12 := ⟨by decide +kernel, rfl⟩
theorem d_M_isAhead_12 : gD m_M_isAhead 12 (.iload_n 3) 1 13 := ⟨by decide +kernel, rfl⟩
theorem d_M_isAhead_13 : gD m_M_isAhead 13 .iaload 1 14 := ⟨by decide +kernel, rfl⟩
theorem d_M_isAhead_14 : gD m_M_isAhead 14 (.istore 5) 2 16 := ⟨by decide +kernel, rfl⟩
theorem d_M_isAhead_16 : gD m_M_isAhead 16 (.aload_n 0) 1 17 := ⟨by decide +kernel, rfl⟩
theorem d_M_isAhead_17 : gD m_M_isAhead 17 (.iload_n 1) 1 18 := ⟨by decide +kernel, rfl⟩
theorem d_M_isAhead_18 : gD m_M_isAhead 18 (.iload 4) 2 20 := ⟨by decide +kernel, rfl⟩
theorem d_M_isAhead_20 : gD m_M_isAhead 20 (.invokevirtual 101) 3 23 := ⟨by decide +kernel, rfl⟩
theorem d_M_isAhead_23 : gD m_M_isAhead 23 (.istore 6) 2 25 := ⟨by decide +kernel, rfl⟩
theorem d_M_isAhead_25 : gD m_M_isAhead 25 (.aload_n 0) 1 26 := ⟨by decide +kernel, rfl⟩
theorem d_M_isAhead_26 : gD m_M_isAhead 26 (.getfield 33) 3 29 := ⟨by decide +kernel, rfl⟩
theorem d_M_isAhead_29 : gD m_M_isAhead 29 (.iconst 3) 1 30 := ⟨by decide +kernel, rfl⟩
theorem d_M_isAhead_30 : gD m_M_isAhead 30 (.iload_n 2) 1 31 := ⟨by decide +kernel, rfl⟩
theorem d_M_isAhead_31 : gD m_M_isAhead 31 .imul 1 32 := ⟨by decide +kernel, rfl⟩
theorem d_M_isAhead_32 : gD m_M_isAhead 32 (.iload 4) 2 34 := ⟨by decide +kernel, rfl⟩
theorem d_M_isAhead_34 : gD m_M_isAhead 34 .iadd 1 35 := ⟨by decide +kernel, rfl⟩
theorem d_M_isAhead_35 : gD m_M_isAhead 35 .iaload 1 36 := ⟨by decide +kernel, rfl⟩
theorem d_M_isAhead_36 : gD m_M_isAhead 36 (.istore 7) 2 38 := ⟨by decide +kernel, rfl⟩
theorem d_M_isAhead_38 : gD m_M_isAhead 38 (.iload 6) 2 40 := ⟨by decide +kernel, rfl⟩
theorem d_M_isAhead_40 : gD m_M_isAhead 40 (.iload 7) 2 42 := ⟨by decide +kernel, rfl⟩
theorem d_M_isAhead_42 : gD m_M_isAhead 42 (.if_icmp .lt 40) 3 45 := ⟨by decide +kernel, rfl⟩
theorem d_M_isAhead_45 : gD m_M_isAhead 45 (.aload_n 0) 1 46 := ⟨by decide +kernel, rfl⟩
theorem d_M_isAhead_46 : gD m_M_isAhead 46 (.iload_n 2) 1 47 := ⟨by decide +kernel, rfl⟩
theorem d_M_isAhead_47 : gD m_M_isAhead 47 (.iload_n 3) 1 48 := ⟨by decide +kernel, rfl⟩
theorem d_M_isAhead_48 : gD m_M_isAhead 48 (.invokevirtual 136) 3 51 := ⟨by decide +kernel, rfl⟩
theorem d_M_isAhead_51 : gD m_M_isAhead 51 (.ifCond .eq 35) 3 54 := ⟨by decide +kernel, rfl⟩
theorem d_M_isAhead_54 : gD m_M_isAhead 54 (.iload 6) 2 56 := ⟨by decide +kernel, rfl⟩
theorem d_M_isAhead_56 : gD m_M_isAhead 56 (.iload 7) 2 58 := ⟨by decide +kernel, rfl⟩
theorem d_M_isAhead_58 : gD m_M_isAhead 58 (.if_icmp .ne 28) 3 61 := ⟨by decide +kernel, rfl⟩
theorem d_M_isAhead_61 : gD m_M_isAhead 61 (.aload_n 0) 1 62 := ⟨by decide +kernel, rfl⟩
theorem d_M_isAhead_62 : gD m_M_isAhead 62 (.iload_n 1) 1 63 := ⟨by decide +kernel, rfl⟩
theorem d_M_isAhead_63 : gD m_M_isAhead 63 (.iload 5) 2 65 := ⟨by decide +kernel, rfl⟩
theorem d_M_isAhead_65 : gD m_M_isAhead 65 (.invokevirtual 101) 3 68 := ⟨by decide +kernel, rfl⟩
theorem d_M_isAhead_68 : gD m_M_isAhead 68 (.aload_n 0) 1 69 := ⟨by decide +kernel, rfl⟩
theorem d_M_isAhead_69 : gD m_M_isAhead 69 (.getfield 33) 3 72 := ⟨by decide +kernel, rfl⟩
theorem d_M_isAhead_72 : gD m_M_isAhead 72 (.iconst 3) 1 73 := ⟨by decide +kernel, rfl⟩
theorem d_M_isAhead_73 : gD m_M_isAhead 73 (.iload_n 2) 1 74 := ⟨by decide +kernel, rfl⟩
theorem d_M_isAhead_74 : gD m_M_isAhead 74 .imul 1 75 := ⟨by decide +kernel, rfl⟩
theorem d_M_isAhead_75 : gD m_M_isAhead 75 (.iload 5) 2 77 := ⟨by decide +kernel, rfl⟩
theorem d_M_isAhead_77 : gD m_M_isAhead 77 .iadd 1 78 := ⟨by decide +kernel, rfl⟩
theorem d_M_isAhead_78 : gD m_M_isAhead 78 .iaload 1 79 := ⟨by decide +kernel, rfl⟩
theorem d_M_isAhead_79 : gD m_M_isAhead 79 (.if_icmp .ge 7) 3 82 := ⟨by decide +kernel, rfl⟩
theorem d_M_isAhead_82 : gD m_M_isAhead 82 (.iconst 1) 1 83 := ⟨by decide +kernel, rfl⟩
theorem d_M_isAhead_83 : gD m_M_isAhead 83 (.goto 4) 3 86 := ⟨by decide +kernel, rfl⟩
theorem d_M_isAhead_86 : gD m_M_isAhead 86 (.iconst 0) 1 87 := ⟨by decide +kernel, rfl⟩
theorem d_M_isAhead_87 : gD m_M_isAhead 87 .ireturn 1 88 := ⟨by decide +kernel, rfl⟩
theorem d_M_countsSecond_0 : gD m_M_countsSecond 0 (.aload_n 0) 1 1 := ⟨by decide +kernel, rfl⟩
theorem d_M_countsSecond_1 : gD m_M_countsSecond 1 (.getfield 20) 3 4 := ⟨by decide +kernel, rfl⟩
theorem d_M_countsSecond_4 : gD m_M_countsSecond 4 (.iload_n 2) 1 5 := ⟨by decide +kernel, rfl⟩
theorem d_M_countsSecond_5 : gD m_M_countsSecond 5 .iaload 1 6 := ⟨by decide +kernel, rfl⟩
theorem d_M_countsSecond_6 : gD m_M_countsSecond 6 (.istore_n 3) 1 7 := ⟨by decide +kernel, rfl⟩
theorem d_M_countsSecond_7 : gD m_M_countsSecond 7 (.iload_n 3) 1 8 := ⟨by decide +kernel, rfl⟩
theorem d_M_countsSecond_8 : gD m_M_countsSecond 8 (.ifCond .lt 39) 3 11 := ⟨by decide +kernel, rfl⟩
theorem d_M_countsSecond_11 : gD m_M_countsSecond 11 (.aload_n 0) 1 12 := ⟨by decide +kernel, rfl⟩
theorem d_M_countsSecond_12 : gD m_M_countsSecond 12 (.getfield 30) 3 15 := ⟨by decide +kernel, rfl⟩
theorem d_M_countsSecond_15 : gD m_M_countsSecond 15 (.iconst 3) 1 16 := ⟨by decide +kernel, rfl⟩
theorem d_M_countsSecond_16 : gD m_M_countsSecond 16 (.iload_n 1) 1 17 := ⟨by decide +kernel, rfl⟩
theorem d_M_countsSecond_17 : gD m_M_countsSecond 17 .imul 1 18 := ⟨by decide +kernel, rfl⟩
theorem d_M_countsSecond_18 : gD m_M_countsSecond 18 (.aload_n 0) 1 19 := ⟨by decide +kernel, rfl⟩
theorem d_M_countsSecond_19 : gD m_M_countsSecond 19 (.getfield 17) 3 22 := ⟨by decide +kernel, rfl⟩
theorem d_M_countsSecond_22 : gD m_M_countsSecond 22 (.iload_n 2) 1 23 := ⟨by decide +kernel, rfl⟩
theorem d_M_countsSecond_23 : gD m_M_countsSecond 23 .iaload 1 24 := ⟨by decide +kernel, rfl⟩
theorem d_M_countsSecond_24 : gD m_M_countsSecond 24 .iadd 1 25 := ⟨by decide +kernel, rfl⟩
theorem d_M_countsSecond_25 : gD m_M_countsSecond 25 .iaload 1 26 := ⟨by decide +kernel, rfl⟩
theorem d_M_countsSecond_26 : gD m_M_countsSecond 26 (.iconst 1) 1 27 := ⟨by decide +kernel, rfl⟩
theorem d_M_countsSecond_27 : gD m_M_countsSecond 27 (.if_icmp .ne 20) 3 30 := ⟨by decide +kernel, rfl⟩
theorem d_M_countsSecond_30 : gD m_M_countsSecond 30 (.aload_n 0) 1 31 := ⟨by decide +kernel, rfl⟩
theorem d_M_countsSecond_31 : gD m_M_countsSecond 31 (.getfield 30) 3 34 := ⟨by decide +kernel, rfl⟩
theorem d_M_countsSecond_34 : gD m_M_countsSecond 34 (.iconst 3) 1 35 := ⟨by decide +kernel, rfl⟩
theorem d_M_countsSecond_35 : gD m_M_countsSecond 35 (.iload_n 1) 1 36 := ⟨by decide +kernel, rfl⟩
theorem d_M_countsSecond_36 : gD m_M_countsSecond 36 .imul 1 37 := ⟨by decide +kernel, rfl⟩
theorem d_M_countsSecond_37 : gD m_M_countsSecond 37 (.iload_n 3) 1 38 := ⟨by decide +kernel, rfl⟩
theorem d_M_countsSecond_38 : gD m_M_countsSecond 38 .iadd 1 39 := ⟨by decide +kernel, rfl⟩
theorem d_M_countsSecond_39 : gD m_M_countsSecond 39 .iaload 1 40 := ⟨by decide +kernel, rfl⟩
theorem d_M_countsSecond_40 : gD m_M_countsSecond 40 (.ifCond .le 7) 3 43 := ⟨by decide +kernel, rfl⟩
theorem d_M_countsSecond_43 : gD m_M_countsSecond 43 (.iconst 1) 1 44 := ⟨by decide +kernel, rfl⟩
theorem d_M_countsSecond_44 : gD m_M_countsSecond 44 (.goto 4) 3 47 := ⟨by decide +kernel, rfl⟩
theorem d_M_countsSecond_47 : gD m_M_countsSecond 47 (.iconst 0) 1 48 := ⟨by decide +kernel, rfl⟩
theorem d_M_countsSecond_48 : gD m_M_countsSecond 48 .ireturn 1 49 := ⟨by decide +kernel, rfl⟩
theorem d_M_isIn_0 : gD m_M_isIn 0 (.aload_n 0) 1 1 := ⟨by decide +kernel, rfl⟩
theorem d_M_isIn_1 : gD m_M_isIn 1 (.iload_n 1) 1 2 := ⟨by decide +kernel, rfl⟩
theorem d_M_isIn_2 : gD m_M_isIn 2 (.iload_n 2) 1 3 := ⟨by decide +kernel, rfl⟩
theorem d_M_isIn_3 : gD m_M_isIn 3 (.aload_n 0) 1 4 := ⟨by decide +kernel, rfl⟩
theorem d_M_isIn_4 : gD m_M_isIn 4 (.getfield 17) 3 7 := ⟨by decide +kernel, rfl⟩
theorem d_M_isIn_7 : gD m_M_isIn 7 (.iload_n 3) 1 8 := ⟨by decide +kernel, rfl⟩
theorem d_M_isIn_8 : gD m_M_isIn 8 .iaload 1 9 := ⟨by decide +kernel, rfl⟩
theorem d_M_isIn_9 : gD m_M_isIn 9 (.invokevirtual 140) 3 12 := ⟨by decide +kernel, rfl⟩
theorem d_M_isIn_12 : gD m_M_isIn 12 (.ifCond .eq 31) 3 15 := ⟨by decide +kernel, rfl⟩
theorem d_M_isIn_15 : gD m_M_isIn 15 (.aload_n 0) 1 16 := ⟨by decide +kernel, rfl⟩
theorem d_M_isIn_16 : gD m_M_isIn 16 (.iload_n 2) 1 17 := ⟨by decide +kernel, rfl⟩
theorem d_M_isIn_17 : gD m_M_isIn 17 (.iload_n 3) 1 18 := ⟨by decide +kernel, rfl⟩
theorem d_M_isIn_18 : gD m_M_isIn 18 (.invokevirtual 136) 3 21 := ⟨by decide +kernel, rfl⟩
theorem d_M_isIn_21 : gD m_M_isIn 21 (.ifCond .eq 18) 3 24 := ⟨by decide +kernel, rfl⟩
theorem d_M_isIn_24 : gD m_M_isIn 24 (.aload_n 0) 1 25 := ⟨by decide +kernel, rfl⟩
theorem d_M_isIn_25 : gD m_M_isIn 25 (.iload_n 1) 1 26 := ⟨by decide +kernel, rfl⟩
theorem d_M_isIn_26 : gD m_M_isIn 26 (.iload_n 2) 1 27 := ⟨by decide +kernel, rfl⟩
theorem d_M_isIn_27 : gD m_M_isIn 27 (.aload_n 0) 1 28 := ⟨by decide +kernel, rfl⟩
theorem d_M_isIn_28 : gD m_M_isIn 28 (.getfield 20) 3 31 := ⟨by decide +kernel, rfl⟩
theorem d_M_isIn_31 : gD m_M_isIn 31 (.iload_n 3) 1 32 := ⟨by decide +kernel, rfl⟩
theorem d_M_isIn_32 : gD m_M_isIn 32 .iaload 1 33 := ⟨by decide +kernel, rfl⟩
theorem d_M_isIn_33 : gD m_M_isIn 33 (.invokevirtual 140) 3 36 := ⟨by decide +kernel, rfl⟩
theorem d_M_isIn_36 : gD m_M_isIn 36 (.ifCond .eq 7) 3 39 := ⟨by decide +kernel, rfl⟩
theorem d_M_isIn_39 : gD m_M_isIn 39 (.iconst 1) 1 40 := ⟨by decide +kernel, rfl⟩
theorem d_M_isIn_40 : gD m_M_isIn 40 (.goto 4) 3 43 := ⟨by decide +kernel, rfl⟩
theorem d_M_isIn_43 : gD m_M_isIn 43 (.iconst 0) 1 44 := ⟨by decide +kernel, rfl⟩
theorem d_M_isIn_44 : gD m_M_isIn 44 .ireturn 1 45 := ⟨by decide +kernel, rfl⟩
theorem d_M_fits_0 : gD m_M_fits 0 (.aload_n 0) 1 1 := ⟨by decide +kernel, rfl⟩
theorem d_M_fits_1 : gD m_M_fits 1 (.iload_n 1) 1 2 := ⟨by decide +kernel, rfl⟩
theorem d_M_fits_2 : gD m_M_fits 2 (.iload_n 3) 1 3 := ⟨by decide +kernel, rfl⟩
theorem d_M_fits_3 : gD m_M_fits 3 (.invokevirtual 101) 3 6 := ⟨by decide +kernel, rfl⟩
theorem d_M_fits_6 : gD m_M_fits 6 (.istore 4) 2 8 := ⟨by decide +kernel, rfl⟩
theorem d_M_fits_8 : gD m_M_fits 8 (.aload_n 0) 1 9 := ⟨by decide +kernel, rfl⟩
theorem d_M_fits_9 : gD m_M_fits 9 (.getfield 30) 3 12 := ⟨by decide +kernel, rfl⟩
theorem d_M_fits_12 : gD m_M_fits 12 (.iconst 3) 1 13 := ⟨by decide +kernel, rfl⟩
theorem d_M_fits_13 : gD m_M_fits 13 (.iload_n 2) 1 14 := ⟨by decide +kernel, rfl⟩
theorem d_M_fits_14 : gD m_M_fits 14 .imul 1 15 := ⟨by decide +kernel, rfl⟩
theorem d_M_fits_15 : gD m_M_fits 15 (.iload_n 3) 1 16 := ⟨by decide +kernel, rfl⟩
theorem d_M_fits_16 : gD m_M_fits 16 .iadd 1 17 := ⟨by decide +kernel, rfl⟩
theorem d_M_fits_17 : gD m_M_fits 17 .iaload 1 18 := ⟨by decide +kernel, rfl⟩
theorem d_M_fits_18 : gD m_M_fits 18 (.istore 5) 2 20 := ⟨by decide +kernel, rfl⟩
theorem d_M_fits_20 : gD m_M_fits 20 (.iload 5) 2 22 := ⟨by decide +kernel, rfl⟩
theorem d_M_fits_22 : gD m_M_fits 22 (.ifCond .eq 52) 3 25 := ⟨by decide +kernel, rfl⟩
theorem d_M_fits_25 : gD m_M_fits 25 (.iload 4) 2 27 := ⟨by decide +kernel, rfl⟩
theorem d_M_fits_27 : gD m_M_fits 27 (.aload_n 0) 1 28 := ⟨by decide +kernel, rfl⟩
theorem d_M_fits_28 : gD m_M_fits 28 (.getfield 33) 3 31 := ⟨by decide +kernel, rfl⟩
theorem d_M_fits_31 : gD m_M_fits 31 (.iconst 3) 1 32 := ⟨by decide +kernel, rfl⟩
theorem d_M_fits_32 : gD m_M_fits 32 (.iload_n 2) 1 33 := ⟨by decide +kernel, rfl⟩
theorem d_M_fits_33 : gD m_M_fits 33 .imul 1 34 := ⟨by decide +kernel, rfl⟩
theorem d_M_fits_34 : gD m_M_fits 34 (.iload_n 3) 1 35 := ⟨by decide +kernel, rfl⟩
theorem d_M_fits_35 : gD m_M_fits 35 .iadd 1 36 := ⟨by decide +kernel, rfl⟩
theorem d_M_fits_36 : gD m_M_fits 36 .iaload 1 37 := ⟨by decide +kernel, rfl⟩
theorem d_M_fits_37 : gD m_M_fits 37 (.if_icmp .lt 41) 3 40 := ⟨by decide +kernel, rfl⟩
theorem d_M_fits_40 : gD m_M_fits 40 (.iload 4) 2 42 := ⟨by decide +kernel, rfl⟩
theorem d_M_fits_42 : gD m_M_fits 42 (.iload 5) 2 44 := ⟨by decide +kernel, rfl⟩
theorem d_M_fits_44 : gD m_M_fits 44 (.iconst 1) 1 45 := ⟨by decide +kernel, rfl⟩
theorem d_M_fits_45 : gD m_M_fits 45 (.if_icmp .ne 16) 3 48 := ⟨by decide +kernel, rfl⟩
theorem d_M_fits_48 : gD m_M_fits 48 (.aload_n 0) 1 49 := ⟨by decide +kernel, rfl⟩
theorem d_M_fits_49 : gD m_M_fits 49 (.getfield 33) 3 52 := ⟨by decide +kernel, rfl⟩
theorem d_M_fits_52 : gD m_M_fits 52 (.iconst 3) 1 53 := ⟨by decide +kernel, rfl⟩
theorem d_M_fits_53 : gD m_M_fits 53 (.iload_n 2) 1 54 := ⟨by decide +kernel, rfl⟩
theorem d_M_fits_54 : gD m_M_fits 54 .imul 1 55 := ⟨by decide +kernel, rfl⟩
theorem d_M_fits_55 : gD m_M_fits 55 (.iload_n 3) 1 56 := ⟨by decide +kernel, rfl⟩
theorem d_M_fits_56 : gD m_M_fits 56 .iadd 1 57 := ⟨by decide +kernel, rfl⟩
theorem d_M_fits_57 : gD m_M_fits 57 .iaload 1 58 := ⟨by decide +kernel, rfl⟩
theorem d_M_fits_58 : gD m_M_fits 58 (.goto 13) 3 61 := ⟨by decide +kernel, rfl⟩
theorem d_M_fits_61 : gD m_M_fits 61 (.aload_n 0) 1 62 := ⟨by decide +kernel, rfl⟩
theorem d_M_fits_62 : gD m_M_fits 62 (.getfield 36) 3 65 := ⟨by decide +kernel, rfl⟩
theorem d_M_fits_65 : gD m_M_fits 65 (.iconst 3) 1 66 := ⟨by decide +kernel, rfl⟩
theorem d_M_fits_66 : gD m_M_fits 66 (.iload_n 2) 1 67 := ⟨by decide +kernel, rfl⟩
theorem d_M_fits_67 : gD m_M_fits 67 .imul 1 68 := ⟨by decide +kernel, rfl⟩
theorem d_M_fits_68 : gD m_M_fits 68 (.iload_n 3) 1 69 := ⟨by decide +kernel, rfl⟩
theorem d_M_fits_69 : gD m_M_fits 69 .iadd 1 70 := ⟨by decide +kernel, rfl⟩
theorem d_M_fits_70 : gD m_M_fits 70 .iaload 1 71 := ⟨by decide +kernel, rfl⟩
theorem d_M_fits_71 : gD m_M_fits 71 (.if_icmp .gt 7) 3 74 := ⟨by decide +kernel, rfl⟩
theorem d_M_fits_74 : gD m_M_fits 74 (.iconst 1) 1 75 := ⟨by decide +kernel, rfl⟩
theorem d_M_fits_75 : gD m_M_fits 75 (.goto 4) 3 78 := ⟨by decide +kernel, rfl⟩
theorem d_M_fits_78 : gD m_M_fits 78 (.iconst 0) 1 79 := ⟨by decide +kernel, rfl⟩
theorem d_M_fits_79 : gD m_M_fits 79 .ireturn 1 80 := ⟨by decide +kernel, rfl⟩
theorem d_M_leavesTouched_0 : gD m_M_leavesTouched 0 (.aload_n 0) 1 1 := ⟨by decide +kernel, rfl⟩
theorem d_M_leavesTouched_1 : gD m_M_leavesTouched 1 (.getfield 150) 3 4 := ⟨by decide +kernel, rfl⟩
theorem d_M_leavesTouched_4 : gD m_M_leavesTouched 4 (.aload_n 0) 1 5 := ⟨by decide +kernel, rfl⟩
theorem d_M_leavesTouched_5 : gD m_M_leavesTouched 5 (.getfield 144) 3 8 := ⟨by decide +kernel, rfl⟩
theorem d_M_leavesTouched_8 : gD m_M_leavesTouched 8 (.if_icmp .ne 7) 3 11 := ⟨by decide +kernel, rfl⟩
theorem d_M_leavesTouched_11 : gD m_M_leavesTouched 11 (.iconst 1) 1 12 := ⟨by decide +kernel, rfl⟩
theorem d_M_leavesTouched_12 : gD m_M_leavesTouched 12 (.goto 20) 3 15 := ⟨by decide +kernel, rfl⟩
theorem d_M_leavesTouched_15 : gD m_M_leavesTouched 15 (.aload_n 0) 1 16 := ⟨by decide +kernel, rfl⟩
theorem d_M_leavesTouched_16 : gD m_M_leavesTouched 16 (.getfield 150) 3 19 := ⟨by decide +kernel, rfl⟩
theorem d_M_leavesTouched_19 : gD m_M_leavesTouched 19 (.iconst 1) 1 20 := ⟨by decide +kernel, rfl⟩
theorem d_M_leavesTouched_20 : gD m_M_leavesTouched 20 .isub 1 21 := ⟨by decide +kernel, rfl⟩
theorem d_M_leavesTouched_21 : gD m_M_leavesTouched 21 (.iconst 4) 1 22 := ⟨by decide +kernel, rfl⟩
theorem d_M_leavesTouched_22 : gD m_M_leavesTouched 22 .idiv 1 23 := ⟨by decide +kernel, rfl⟩
theorem d_M_leavesTouched_23 : gD m_M_leavesTouched 23 (.aload_n 0) 1 24 := ⟨by decide +kernel, rfl⟩
theorem d_M_leavesTouched_24 : gD m_M_leavesTouched 24 (.getfield 144) 3 27 := ⟨by decide +kernel, rfl⟩
theorem d_M_leavesTouched_27 : gD m_M_leavesTouched 27 (.iconst 4) 1 28 := ⟨by decide +kernel, rfl⟩
theorem d_M_leavesTouched_28 : gD m_M_leavesTouched 28 .idiv 1 29 := ⟨by decide +kernel, rfl⟩
theorem d_M_leavesTouched_29 : gD m_M_leavesTouched 29 .isub 1 30 := ⟨by decide +kernel, rfl⟩
theorem d_M_leavesTouched_30 : gD m_M_leavesTouched 30 (.iconst 1) 1 31 := ⟨by decide +kernel, rfl⟩
theorem d_M_leavesTouched_31 : gD m_M_leavesTouched 31 .iadd 1 32 := ⟨by decide +kernel, rfl⟩
end
section
/-! decode rows (wip/emit.py) -/
theorem d_M_leavesTouched_32 : gD m_M_leavesTouched 32 .ireturn 1 33 := ⟨by decide +kernel, rfl⟩
theorem d_M_where_0 : gD m_M_where 0 (.aload_n 0) 1 1 := ⟨by decide +kernel, rfl⟩
theorem d_M_where_1 : gD m_M_where 1 (.iload_n 1) 1 2 := ⟨by decide +kernel, rfl⟩
theorem d_M_where_2 : gD m_M_where 2 (.invokestatic 98) 3 5 := ⟨by decide +kernel, rfl⟩
theorem d_M_where_5 : gD m_M_where 5 (.ifCond .ne 7) 3 8 := ⟨by decide +kernel, rfl⟩
theorem d_M_where_8 : gD m_M_where 8 (.iconst 1) 1 9 := ⟨by decide +kernel, rfl⟩
theorem d_M_where_9 : gD m_M_where 9 (.goto 17) 3 12 := ⟨by decide +kernel, rfl⟩
theorem d_M_where_12 : gD m_M_where 12 (.iload_n 2) 1 13 := ⟨by decide +kernel, rfl⟩
theorem d_M_where_13 : gD m_M_where 13 (.ifCond .lt 8) 3 16 := ⟨by decide +kernel, rfl⟩
theorem d_M_where_16 : gD m_M_where 16 (.iload_n 2) 1 17 := ⟨by decide +kernel, rfl⟩
theorem d_M_where_17 : gD m_M_where 17 (.iconst 2) 1 18 := ⟨by decide +kernel, rfl⟩
theorem d_M_where_18 : gD m_M_where 18 (.if_icmp .le 7) 3 21 := ⟨by decide +kernel, rfl⟩
theorem d_M_where_21 : gD m_M_where 21 (.iconst 2) 1 22 := ⟨by decide +kernel, rfl⟩
theorem d_M_where_22 : gD m_M_where 22 (.goto 4) 3 25 := ⟨by decide +kernel, rfl⟩
theorem d_M_where_25 : gD m_M_where 25 (.iconst 0) 1 26 := ⟨by decide +kernel, rfl⟩
theorem d_M_where_26 : gD m_M_where 26 (.putfield 72) 3 29 := ⟨by decide +kernel, rfl⟩
theorem d_M_where_29 : gD m_M_where 29 (.aload_n 0) 1 30 := ⟨by decide +kernel, rfl⟩
theorem d_M_where_30 : gD m_M_where 30 (.getfield 72) 3 33 := ⟨by decide +kernel, rfl⟩
theorem d_M_where_33 : gD m_M_where 33 (.ifCond .le 4) 3 36 := ⟨by decide +kernel, rfl⟩
theorem d_M_where_36 : gD m_M_where 36 .return_ 1 37 := ⟨by decide +kernel, rfl⟩
theorem d_M_where_37 : gD m_M_where 37 (.aload_n 0) 1 38 := ⟨by decide +kernel, rfl⟩
theorem d_M_where_38 : gD m_M_where 38 (.getfield 30) 3 41 := ⟨by decide +kernel, rfl⟩
theorem d_M_where_41 : gD m_M_where 41 (.iload_n 1) 1 42 := ⟨by decide +kernel, rfl⟩
theorem d_M_where_42 : gD m_M_where 42 (.iload_n 2) 1 43 := ⟨by decide +kernel, rfl⟩
theorem d_M_where_43 : gD m_M_where 43 .iastore 1 44 := ⟨by decide +kernel, rfl⟩
theorem d_M_where_44 : gD m_M_where 44 (.aload_n 0) 1 45 := ⟨by decide +kernel, rfl⟩
theorem d_M_where_45 : gD m_M_where 45 (.getfield 33) 3 48 := ⟨by decide +kernel, rfl⟩
theorem d_M_where_48 : gD m_M_where 48 (.iload_n 1) 1 49 := ⟨by decide +kernel, rfl⟩
theorem d_M_where_49 : gD m_M_where 49 (.iload_n 3) 1 50 := ⟨by decide +kernel, rfl⟩
theorem d_M_where_50 : gD m_M_where 50 .iastore 1 51 := ⟨by decide +kernel, rfl⟩
theorem d_M_where_51 : gD m_M_where 51 (.aload_n 0) 1 52 := ⟨by decide +kernel, rfl⟩
theorem d_M_where_52 : gD m_M_where 52 (.getfield 36) 3 55 := ⟨by decide +kernel, rfl⟩
theorem d_M_where_55 : gD m_M_where 55 (.iload_n 1) 1 56 := ⟨by decide +kernel, rfl⟩
theorem d_M_where_56 : gD m_M_where 56 (.iload 4) 2 58 := ⟨by decide +kernel, rfl⟩
theorem d_M_where_58 : gD m_M_where 58 .iastore 1 59 := ⟨by decide +kernel, rfl⟩
theorem d_M_where_59 : gD m_M_where 59 .return_ 1 60 := ⟨by decide +kernel, rfl⟩
theorem d_M_order_0 : gD m_M_order 0 (.aload_n 0) 1 1 := ⟨by decide +kernel, rfl⟩
theorem d_M_order_1 : gD m_M_order 1 (.iload_n 1) 1 2 := ⟨by decide +kernel, rfl⟩
theorem d_M_order_2 : gD m_M_order 2 (.iconst (-1)) 1 3 := ⟨by decide +kernel, rfl⟩
theorem d_M_order_3 : gD m_M_order 3 (.if_icmp .eq 14) 3 6 := ⟨by decide +kernel, rfl⟩
theorem d_M_order_6 : gD m_M_order 6 (.iload_n 1) 1 7 := ⟨by decide +kernel, rfl⟩
theorem d_M_order_7 : gD m_M_order 7 (.invokestatic 98) 3 10 := ⟨by decide +kernel, rfl⟩
theorem d_M_order_10 : gD m_M_order 10 (.ifCond .ne 7) 3 13 := ⟨by decide +kernel, rfl⟩
theorem d_M_order_13 : gD m_M_order 13 (.iconst 1) 1 14 := ⟨by decide +kernel, rfl⟩
theorem d_M_order_14 : gD m_M_order 14 (.goto 18) 3 17 := ⟨by decide +kernel, rfl⟩
theorem d_M_order_17 : gD m_M_order 17 (.iload_n 2) 1 18 := ⟨by decide +kernel, rfl⟩
theorem d_M_order_18 : gD m_M_order 18 (.ifCond .lt 9) 3 21 := ⟨by decide +kernel, rfl⟩
theorem d_M_order_21 : gD m_M_order 21 (.iload_n 2) 1 22 := ⟨by decide +kernel, rfl⟩
theorem d_M_order_22 : gD m_M_order 22 (.bipush 64) 2 24 := ⟨by decide +kernel, rfl⟩
theorem d_M_order_24 : gD m_M_order 24 (.if_icmp .le 7) 3 27 := ⟨by decide +kernel, rfl⟩
theorem d_M_order_27 : gD m_M_order 27 (.iconst 2) 1 28 := ⟨by decide +kernel, rfl⟩
theorem d_M_order_28 : gD m_M_order 28 (.goto 4) 3 31 := ⟨by decide +kernel, rfl⟩
theorem d_M_order_31 : gD m_M_order 31 (.iconst 0) 1 32 := ⟨by decide +kernel, rfl⟩
theorem d_M_order_32 : gD m_M_order 32 (.putfield 72) 3 35 := ⟨by decide +kernel, rfl⟩
theorem d_M_order_35 : gD m_M_order 35 (.aload_n 0) 1 36 := ⟨by decide +kernel, rfl⟩
theorem d_M_order_36 : gD m_M_order 36 (.getfield 72) 3 39 := ⟨by decide +kernel, rfl⟩
theorem d_M_order_39 : gD m_M_order 39 (.ifCond .le 4) 3 42 := ⟨by decide +kernel, rfl⟩
theorem d_M_order_42 : gD m_M_order 42 .return_ 1 43 := ⟨by decide +kernel, rfl⟩
theorem d_M_order_43 : gD m_M_order 43 (.aload_n 0) 1 44 := ⟨by decide +kernel, rfl⟩
theorem d_M_order_44 : gD m_M_order 44 (.iload_n 1) 1 45 := ⟨by decide +kernel, rfl⟩
theorem d_M_order_45 : gD m_M_order 45 (.putfield 39) 3 48 := ⟨by decide +kernel, rfl⟩
theorem d_M_order_48 : gD m_M_order 48 (.aload_n 0) 1 49 := ⟨by decide +kernel, rfl⟩
theorem d_M_order_49 : gD m_M_order 49 (.iload_n 2) 1 50 := ⟨by decide +kernel, rfl⟩
theorem d_M_order_50 : gD m_M_order 50 (.putfield 42) 3 53 := ⟨by decide +kernel, rfl⟩
theorem d_M_order_53 : gD m_M_order 53 .return_ 1 54 := ⟨by decide +kernel, rfl⟩
theorem d_M_ask_0 : gD m_M_ask 0 (.aload_n 0) 1 1 := ⟨by decide +kernel, rfl⟩
theorem d_M_ask_1 : gD m_M_ask 1 (.iconst 0) 1 2 := ⟨by decide +kernel, rfl⟩
theorem d_M_ask_2 : gD m_M_ask 2 (.putfield 72) 3 5 := ⟨by decide +kernel, rfl⟩
theorem d_M_ask_5 : gD m_M_ask 5 (.aload_n 0) 1 6 := ⟨by decide +kernel, rfl⟩
theorem d_M_ask_6 : gD m_M_ask 6 (.aload_n 0) 1 7 := ⟨by decide +kernel, rfl⟩
theorem d_M_ask_7 : gD m_M_ask 7 (.iconst 0) 1 8 := ⟨by decide +kernel, rfl⟩
theorem d_M_ask_8 : gD m_M_ask 8 (.iconst (-1)) 1 9 := ⟨by decide +kernel, rfl⟩
theorem d_M_ask_9 : gD m_M_ask 9 (.invokevirtual 196) 3 12 := ⟨by decide +kernel, rfl⟩
theorem d_M_ask_12 : gD m_M_ask 12 (.putfield 60) 3 15 := ⟨by decide +kernel, rfl⟩
theorem d_M_ask_15 : gD m_M_ask 15 (.aload_n 0) 1 16 := ⟨by decide +kernel, rfl⟩
theorem d_M_ask_16 : gD m_M_ask 16 (.aload_n 0) 1 17 := ⟨by decide +kernel, rfl⟩
theorem d_M_ask_17 : gD m_M_ask 17 (.iconst 0) 1 18 := ⟨by decide +kernel, rfl⟩
theorem d_M_ask_18 : gD m_M_ask 18 (.aload_n 0) 1 19 := ⟨by decide +kernel, rfl⟩
theorem d_M_ask_19 : gD m_M_ask 19 (.getfield 60) 3 22 := ⟨by decide +kernel, rfl⟩
theorem d_M_ask_22 : gD m_M_ask 22 (.invokevirtual 199) 3 25 := ⟨by decide +kernel, rfl⟩
theorem d_M_ask_25 : gD m_M_ask 25 (.putfield 202) 3 28 := ⟨by decide +kernel, rfl⟩
theorem d_M_ask_28 : gD m_M_ask 28 (.aload_n 0) 1 29 := ⟨by decide +kernel, rfl⟩
theorem d_M_ask_29 : gD m_M_ask 29 (.iconst 0) 1 30 := ⟨by decide +kernel, rfl⟩
theorem d_M_ask_30 : gD m_M_ask 30 (.putfield 171) 3 33 := ⟨by decide +kernel, rfl⟩
theorem d_M_ask_33 : gD m_M_ask 33 (.aload_n 0) 1 34 := ⟨by decide +kernel, rfl⟩
theorem d_M_ask_34 : gD m_M_ask 34 (.iconst 0) 1 35 := ⟨by decide +kernel, rfl⟩
theorem d_M_ask_35 : gD m_M_ask 35 (.putfield 174) 3 38 := ⟨by decide +kernel, rfl⟩
theorem d_M_ask_38 : gD m_M_ask 38 (.aload_n 0) 1 39 := ⟨by decide +kernel, rfl⟩
theorem d_M_ask_39 : gD m_M_ask 39 (.getfield 60) 3 42 := ⟨by decide +kernel, rfl⟩
theorem d_M_ask_42 : gD m_M_ask 42 (.ifCond .ge 30) 3 45 := ⟨by decide +kernel, rfl⟩
theorem d_M_ask_45 : gD m_M_ask 45 (.iconst 0) 1 46 := ⟨by decide +kernel, rfl⟩
theorem d_M_ask_46 : gD m_M_ask 46 (.istore_n 1) 1 47 := ⟨by decide +kernel, rfl⟩
theorem d_M_ask_47 : gD m_M_ask 47 (.iload_n 1) 1 48 := ⟨by decide +kernel, rfl⟩
theorem d_M_ask_48 : gD m_M_ask 48 (.aload_n 0) 1 49 := ⟨by decide +kernel, rfl⟩
theorem d_M_ask_49 : gD m_M_ask 49 (.invokevirtual 162) 3 52 := ⟨by decide +kernel, rfl⟩
theorem d_M_ask_52 : gD m_M_ask 52 (.if_icmp .ge 17) 3 55 := ⟨by decide +kernel, rfl⟩
theorem d_M_ask_55 : gD m_M_ask 55 (.aload_n 0) 1 56 := ⟨by decide +kernel, rfl⟩
theorem d_M_ask_56 : gD m_M_ask 56 (.bipush 9) 2 58 := ⟨by decide +kernel, rfl⟩
theorem d_M_ask_58 : gD m_M_ask 58 (.iconst 0) 1 59 := ⟨by decide +kernel, rfl⟩
theorem d_M_ask_59 : gD m_M_ask 59 (.iload_n 1) 1 60 := ⟨by decide +kernel, rfl⟩
theorem d_M_ask_60 : gD m_M_ask 60 (.invokevirtual 183) 3 63 := ⟨by decide +kernel, rfl⟩
theorem d_M_ask_63 : gD m_M_ask 63 (.iinc 1 1) 3 66 := ⟨by decide +kernel, rfl⟩
theorem d_M_ask_66 : gD m_M_ask 66 (.goto (-19)) 3 69 := ⟨by decide +kernel, rfl⟩
theorem d_M_ask_69 : gD m_M_ask 69 (.goto 11) 3 72 := ⟨by decide +kernel, rfl⟩
theorem d_M_ask_72 : gD m_M_ask 72 (.aload_n 0) 1 73 := ⟨by decide +kernel, rfl⟩
theorem d_M_ask_73 : gD m_M_ask 73 (.aload_n 0) 1 74 := ⟨by decide +kernel, rfl⟩
theorem d_M_ask_74 : gD m_M_ask 74 (.getfield 60) 3 77 := ⟨by decide +kernel, rfl⟩
theorem d_M_ask_77 : gD m_M_ask 77 (.invokevirtual 205) 3 80 := ⟨by decide +kernel, rfl⟩
theorem d_M_ask_80 : gD m_M_ask 80 (.aload_n 0) 1 81 := ⟨by decide +kernel, rfl⟩
theorem d_M_ask_81 : gD m_M_ask 81 (.aload_n 0) 1 82 := ⟨by decide +kernel, rfl⟩
theorem d_M_ask_82 : gD m_M_ask 82 (.getfield 39) 3 85 := ⟨by decide +kernel, rfl⟩
theorem d_M_ask_85 : gD m_M_ask 85 (.iconst (-1)) 1 86 := ⟨by decide +kernel, rfl⟩
theorem d_M_ask_86 : gD m_M_ask 86 (.invokevirtual 132) 3 89 := ⟨by decide +kernel, rfl⟩
theorem d_M_ask_89 : gD m_M_ask 89 (.aload_n 0) 1 90 := ⟨by decide +kernel, rfl⟩
theorem d_M_ask_90 : gD m_M_ask 90 (.iconst 0) 1 91 := ⟨by decide +kernel, rfl⟩
theorem d_M_ask_91 : gD m_M_ask 91 (.putfield 208) 3 94 := ⟨by decide +kernel, rfl⟩
theorem d_M_ask_94 : gD m_M_ask 94 (.iconst 0) 1 95 := ⟨by decide +kernel, rfl⟩
theorem d_M_ask_95 : gD m_M_ask 95 (.istore_n 1) 1 96 := ⟨by decide +kernel, rfl⟩
theorem d_M_ask_96 : gD m_M_ask 96 (.iload_n 1) 1 97 := ⟨by decide +kernel, rfl⟩
theorem d_M_ask_97 : gD m_M_ask 97 (.aload_n 0) 1 98 := ⟨by decide +kernel, rfl⟩
theorem d_M_ask_98 : gD m_M_ask 98 (.getfield 105) 3 101 := ⟨by decide +kernel, rfl⟩
theorem d_M_ask_101 : gD m_M_ask 101 (.if_icmp .ge 77) 3 104 := ⟨by decide +kernel, rfl⟩
theorem d_M_ask_104 : gD m_M_ask 104 (.aload_n 0) 1 105 := ⟨by decide +kernel, rfl⟩
theorem d_M_ask_105 : gD m_M_ask 105 (.getfield 208) 3 108 := ⟨by decide +kernel, rfl⟩
theorem d_M_ask_108 : gD m_M_ask 108 (.aload_n 0) 1 109 := ⟨by decide +kernel, rfl⟩
theorem d_M_ask_109 : gD m_M_ask 109 (.getfield 42) 3 112 := ⟨by decide +kernel, rfl⟩
theorem d_M_ask_112 : gD m_M_ask 112 (.if_icmp .ge 66) 3 115 := ⟨by decide +kernel, rfl⟩
theorem d_M_ask_115 : gD m_M_ask 115 (.aload_n 0) 1 116 := ⟨by decide +kernel, rfl⟩
theorem d_M_ask_116 : gD m_M_ask 116 (.getfield 63) 3 119 := ⟨by decide +kernel, rfl⟩
theorem d_M_ask_119 : gD m_M_ask 119 (.iload_n 1) 1 120 := ⟨by decide +kernel, rfl⟩
theorem d_M_ask_120 : gD m_M_ask 120 .iaload 1 121 := ⟨by decide +kernel, rfl⟩
theorem d_M_ask_121 : gD m_M_ask 121 (.istore_n 2) 1 122 := ⟨by decide +kernel, rfl⟩
theorem d_M_ask_122 : gD m_M_ask 122 (.aload_n 0) 1 123 := ⟨by decide +kernel, rfl⟩
theorem d_M_ask_123 : gD m_M_ask 123 (.iload_n 2) 1 124 := ⟨by decide +kernel, rfl⟩
theorem d_M_ask_124 : gD m_M_ask 124 (.iconst 0) 1 125 := ⟨by decide +kernel, rfl⟩
theorem d_M_ask_125 : gD m_M_ask 125 (.iconst 0) 1 126 := ⟨by decide +kernel, rfl⟩
theorem d_M_ask_126 : gD m_M_ask 126 (.invokevirtual 140) 3 129 := ⟨by decide +kernel, rfl⟩
theorem d_M_ask_129 : gD m_M_ask 129 (.ifCond .eq 43) 3 132 := ⟨by decide +kernel, rfl⟩
theorem d_M_ask_132 : gD m_M_ask 132 (.aload_n 0) 1 133 := ⟨by decide +kernel, rfl⟩
theorem d_M_ask_133 : gD m_M_ask 133 (.iload_n 2) 1 134 := ⟨by decide +kernel, rfl⟩
theorem d_M_ask_134 : gD m_M_ask 134 (.iconst 0) 1 135 := ⟨by decide +kernel, rfl⟩
theorem d_M_ask_135 : gD m_M_ask 135 (.iconst 1) 1 136 := ⟨by decide +kernel, rfl⟩
theorem d_M_ask_136 : gD m_M_ask 136 (.invokevirtual 140) 3 139 := ⟨by decide +kernel, rfl⟩
theorem d_M_ask_139 : gD m_M_ask 139 (.ifCond .eq 33) 3 142 := ⟨by decide +kernel, rfl⟩
theorem d_M_ask_142 : gD m_M_ask 142 (.aload_n 0) 1 143 := ⟨by decide +kernel, rfl⟩
theorem d_M_ask_143 : gD m_M_ask 143 (.iload_n 2) 1 144 := ⟨by decide +kernel, rfl⟩
theorem d_M_ask_144 : gD m_M_ask 144 (.iconst 0) 1 145 := ⟨by decide +kernel, rfl⟩
theorem d_M_ask_145 : gD m_M_ask 145 (.iconst 2) 1 146 := ⟨by decide +kernel, rfl⟩
theorem d_M_ask_146 : gD m_M_ask 146 (.invokevirtual 140) 3 149 := ⟨by decide +kernel, rfl⟩
theorem d_M_ask_149 : gD m_M_ask 149 (.ifCond .eq 23) 3 152 := ⟨by decide +kernel, rfl⟩
theorem d_M_ask_152 : gD m_M_ask 152 (.aload_n 0) 1 153 := ⟨by decide +kernel, rfl⟩
theorem d_M_ask_153 : gD m_M_ask 153 (.getfield 57) 3 156 := ⟨by decide +kernel, rfl⟩
theorem d_M_ask_156 : gD m_M_ask 156 (.aload_n 0) 1 157 := ⟨by decide +kernel, rfl⟩
theorem d_M_ask_157 : gD m_M_ask 157 (.getfield 208) 3 160 := ⟨by decide +kernel, rfl⟩
theorem d_M_ask_160 : gD m_M_ask 160 (.iload_n 2) 1 161 := ⟨by decide +kernel, rfl⟩
theorem d_M_ask_161 : gD m_M_ask 161 .iastore 1 162 := ⟨by decide +kernel, rfl⟩
theorem d_M_ask_162 : gD m_M_ask 162 (.aload_n 0) 1 163 := ⟨by decide +kernel, rfl⟩
theorem d_M_ask_163 : gD m_M_ask 163 .dup 1 164 := ⟨by decide +kernel, rfl⟩
theorem d_M_ask_164 : gD m_M_ask 164 (.getfield 208) 3 167 := ⟨by decide +kernel, rfl⟩
theorem d_M_ask_167 : gD m_M_ask 167 (.iconst 1) 1 168 := ⟨by decide +kernel, rfl⟩
theorem d_M_ask_168 : gD m_M_ask 168 .iadd 1 169 := ⟨by decide +kernel, rfl⟩
theorem d_M_ask_169 : gD m_M_ask 169 (.putfield 208) 3 172 := ⟨by decide +kernel, rfl⟩
theorem d_M_ask_172 : gD m_M_ask 172 (.iinc 1 1) 3 175 := ⟨by decide +kernel, rfl⟩
theorem d_M_ask_175 : gD m_M_ask 175 (.goto (-79)) 3 178 := ⟨by decide +kernel, rfl⟩
theorem d_M_ask_178 : gD m_M_ask 178 (.aload_n 0) 1 179 := ⟨by decide +kernel, rfl⟩
theorem d_M_ask_179 : gD m_M_ask 179 (.invokevirtual 211) 3 182 := ⟨by decide +kernel, rfl⟩
theorem d_M_ask_182 : gD m_M_ask 182 (.aload_n 0) 1 183 := ⟨by decide +kernel, rfl⟩
theorem d_M_ask_183 : gD m_M_ask 183 (.getfield 208) 3 186 := ⟨by decide +kernel, rfl⟩
theorem d_M_ask_186 : gD m_M_ask 186 .ireturn 1 187 := ⟨by decide +kernel, rfl⟩
theorem d_M_wayOf_0 : gD m_M_wayOf 0 (.iconst (-1)) 1 1 := ⟨by decide +kernel, rfl⟩
theorem d_M_wayOf_1 : gD m_M_wayOf 1 (.istore_n 3) 1 2 := ⟨by decide +kernel, rfl⟩
theorem d_M_wayOf_2 : gD m_M_wayOf 2 (.aload_n 0) 1 3 := ⟨by decide +kernel, rfl⟩
theorem d_M_wayOf_3 : gD m_M_wayOf 3 (.invokevirtual 162) 3 6 := ⟨by decide +kernel, rfl⟩
theorem d_M_wayOf_6 : gD m_M_wayOf 6 (.istore 4) 2 8 := ⟨by decide +kernel, rfl⟩
theorem d_M_wayOf_8 : gD m_M_wayOf 8 (.iconst 0) 1 9 := ⟨by decide +kernel, rfl⟩
theorem d_M_wayOf_9 : gD m_M_wayOf 9 (.istore 5) 2 11 := ⟨by decide +kernel, rfl⟩
theorem d_M_wayOf_11 : gD m_M_wayOf 11 (.iload 5) 2 13 := ⟨by decide +kernel, rfl⟩
theorem d_M_wayOf_13 : gD m_M_wayOf 13 (.bipush 9) 2 15 := ⟨by decide +kernel, rfl⟩
theorem d_M_wayOf_15 : gD m_M_wayOf 15 (.if_icmp .ge 103) 3 18 := ⟨by decide +kernel, rfl⟩
theorem d_M_wayOf_18 : gD m_M_wayOf 18 (.iload_n 2) 1 19 := ⟨by decide +kernel, rfl⟩
theorem d_M_wayOf_19 : gD m_M_wayOf 19 (.ifCond .ge 22) 3 22 := ⟨by decide +kernel, rfl⟩
theorem d_M_wayOf_22 : gD m_M_wayOf 22 (.aload_n 0) 1 23 := ⟨by decide +kernel, rfl⟩
theorem d_M_wayOf_23 : gD m_M_wayOf 23 (.getfield 23) 3 26 := ⟨by decide +kernel, rfl⟩
theorem d_M_wayOf_26 : gD m_M_wayOf 26 (.iload 5) 2 28 := ⟨by decide +kernel, rfl⟩
theorem d_M_wayOf_28 : gD m_M_wayOf 28 .iaload 1 29 := ⟨by decide +kernel, rfl⟩
theorem d_M_wayOf_29 : gD m_M_wayOf 29 (.iconst 2) 1 30 := ⟨by decide +kernel, rfl⟩
theorem d_M_wayOf_30 : gD m_M_wayOf 30 (.if_icmp .ne 7) 3 33 := ⟨by decide +kernel, rfl⟩
theorem d_M_wayOf_33 : gD m_M_wayOf 33 (.iconst 1) 1 34 := ⟨by decide +kernel, rfl⟩
theorem d_M_wayOf_34 : gD m_M_wayOf 34 (.goto 22) 3 37 := ⟨by decide +kernel, rfl⟩
theorem d_M_wayOf_37 : gD m_M_wayOf 37 (.iconst 0) 1 38 := ⟨by decide +kernel, rfl⟩
theorem d_M_wayOf_38 : gD m_M_wayOf 38 (.goto 18) 3 41 := ⟨by decide +kernel, rfl⟩
theorem d_M_wayOf_41 : gD m_M_wayOf 41 (.iload_n 2) 1 42 := ⟨by decide +kernel, rfl⟩
theorem d_M_wayOf_42 : gD m_M_wayOf 42 (.iload 5) 2 44 := ⟨by decide +kernel, rfl⟩
theorem d_M_wayOf_44 : gD m_M_wayOf 44 .ishr 1 45 := ⟨by decide +kernel, rfl⟩
theorem d_M_wayOf_45 : gD m_M_wayOf 45 (.iconst 1) 1 46 := ⟨by decide +kernel, rfl⟩
theorem d_M_wayOf_46 : gD m_M_wayOf 46 .iand 1 47 := ⟨by decide +kernel, rfl⟩
theorem d_M_wayOf_47 : gD m_M_wayOf 47 (.iconst 1) 1 48 := ⟨by decide +kernel, rfl⟩
theorem d_M_wayOf_48 : gD m_M_wayOf 48 (.if_icmp .ne 7) 3 51 := ⟨by decide +kernel, rfl⟩
theorem d_M_wayOf_51 : gD m_M_wayOf 51 (.iconst 1) 1 52 := ⟨by decide +kernel, rfl⟩
theorem d_M_wayOf_52 : gD m_M_wayOf 52 (.goto 4) 3 55 := ⟨by decide +kernel, rfl⟩
theorem d_M_wayOf_55 : gD m_M_wayOf 55 (.iconst 0) 1 56 := ⟨by decide +kernel, rfl⟩
theorem d_M_wayOf_56 : gD m_M_wayOf 56 (.istore 6) 2 58 := ⟨by decide +kernel, rfl⟩
theorem d_M_wayOf_58 : gD m_M_wayOf 58 (.iload 6) 2 60 := ⟨by decide +kernel, rfl⟩
theorem d_M_wayOf_60 : gD m_M_wayOf 60 (.ifCond .eq 52) 3 63 := ⟨by decide +kernel, rfl⟩
theorem d_M_wayOf_63 : gD m_M_wayOf 63 (.aload_n 0) 1 64 := ⟨by decide +kernel, rfl⟩
theorem d_M_wayOf_64 : gD m_M_wayOf 64 (.iload_n 1) 1 65 := ⟨by decide +kernel, rfl⟩
theorem d_M_wayOf_65 : gD m_M_wayOf 65 (.iload 5) 2 67 := ⟨by decide +kernel, rfl⟩
theorem d_M_wayOf_67 : gD m_M_wayOf 67 (.invokevirtual 165) 3 70 := ⟨by decide +kernel, rfl⟩
theorem d_M_wayOf_70 : gD m_M_wayOf 70 (.ifCond .eq 42) 3 73 := ⟨by decide +kernel, rfl⟩
theorem d_M_wayOf_73 : gD m_M_wayOf 73 (.aload_n 0) 1 74 := ⟨by decide +kernel, rfl⟩
theorem d_M_wayOf_74 : gD m_M_wayOf 74 (.iload_n 1) 1 75 := ⟨by decide +kernel, rfl⟩
theorem d_M_wayOf_75 : gD m_M_wayOf 75 (.iload 5) 2 77 := ⟨by decide +kernel, rfl⟩
theorem d_M_wayOf_77 : gD m_M_wayOf 77 (.invokevirtual 168) 3 80 := ⟨by decide +kernel, rfl⟩
theorem d_M_wayOf_80 : gD m_M_wayOf 80 (.istore 7) 2 82 := ⟨by decide +kernel, rfl⟩
theorem d_M_wayOf_82 : gD m_M_wayOf 82 (.iload 7) 2 84 := ⟨by decide +kernel, rfl⟩
theorem d_M_wayOf_84 : gD m_M_wayOf 84 (.iload 4) 2 86 := ⟨by decide +kernel, rfl⟩
theorem d_M_wayOf_86 : gD m_M_wayOf 86 (.if_icmp .ge 8) 3 89 := ⟨by decide +kernel, rfl⟩
theorem d_M_wayOf_89 : gD m_M_wayOf 89 (.iload 5) 2 91 := ⟨by decide +kernel, rfl⟩
theorem d_M_wayOf_91 : gD m_M_wayOf 91 (.goto 4) 3 94 := ⟨by decide +kernel, rfl⟩
theorem d_M_wayOf_94 : gD m_M_wayOf 94 (.iload_n 3) 1 95 := ⟨by decide +kernel, rfl⟩
theorem d_M_wayOf_95 : gD m_M_wayOf 95 (.istore_n 3) 1 96 := ⟨by decide +kernel, rfl⟩
theorem d_M_wayOf_96 : gD m_M_wayOf 96 (.iload 7) 2 98 := ⟨by decide +kernel, rfl⟩
theorem d_M_wayOf_98 : gD m_M_wayOf 98 (.iload 4) 2 100 := ⟨by decide +kernel, rfl⟩
theorem d_M_wayOf_100 : gD m_M_wayOf 100 (.if_icmp .ge 8) 3 103 := ⟨by decide +kernel, rfl⟩
theorem d_M_wayOf_103 : gD m_M_wayOf 103 (.iload 7) 2 105 := ⟨by decide +kernel, rfl⟩
theorem d_M_wayOf_105 : gD m_M_wayOf 105 (.goto 5) 3 108 := ⟨by decide +kernel, rfl⟩
theorem d_M_wayOf_108 : gD m_M_wayOf 108 (.iload 4) 2 110 := ⟨by decide +kernel, rfl⟩
theorem d_M_wayOf_110 : gD m_M_wayOf 110 (.istore 4) 2 112 := ⟨by decide +kernel, rfl⟩
theorem d_M_wayOf_112 : gD m_M_wayOf 112 (.iinc 5 1) 3 115 := ⟨by decide +kernel, rfl⟩
theorem d_M_wayOf_115 : gD m_M_wayOf 115 (.goto (-104)) 3 118 := ⟨by decide +kernel, rfl⟩
theorem d_M_wayOf_118 : gD m_M_wayOf 118 (.iload_n 3) 1 119 := ⟨by decide +kernel, rfl⟩
theorem d_M_wayOf_119 : gD m_M_wayOf 119 .ireturn 1 120 := ⟨by decide +kernel, rfl⟩
theorem d_M_costOfWay_0 : gD m_M_costOfWay 0 (.iload_n 2) 1 1 := ⟨by decide +kernel, rfl⟩
theorem d_M_costOfWay_1 : gD m_M_costOfWay 1 (.ifCond .ge 10) 3 4 := ⟨by decide +kernel, rfl⟩
theorem d_M_costOfWay_4 : gD m_M_costOfWay 4 (.aload_n 0) 1 5 := ⟨by decide +kernel, rfl⟩
theorem d_M_costOfWay_5 : gD m_M_costOfWay 5 (.invokevirtual 162) 3 8 := ⟨by decide +kernel, rfl⟩
theorem d_M_costOfWay_8 : gD m_M_costOfWay 8 (.goto 9) 3 11 := ⟨by decide +kernel, rfl⟩
theorem d_M_costOfWay_11 : gD m_M_costOfWay 11 (.aload_n 0) 1 12 := ⟨by decide +kernel, rfl⟩
theorem d_M_costOfWay_12 : gD m_M_costOfWay 12 (.iload_n 1) 1 13 := ⟨by decide +kernel, rfl⟩
theorem d_M_costOfWay_13 : gD m_M_costOfWay 13 (.iload_n 2) 1 14 := ⟨by decide +kernel, rfl⟩
theorem d_M_costOfWay_14 : gD m_M_costOfWay 14 (.invokevirtual 168) 3 17 := ⟨by decide +kernel, rfl⟩
theorem d_M_costOfWay_17 : gD m_M_costOfWay 17 .ireturn 1 18 := ⟨by decide +kernel, rfl⟩
theorem d_M_touch_0 : gD m_M_touch 0 (.sipush 10000) 3 3 := ⟨by decide +kernel, rfl⟩
theorem d_M_touch_3 : gD m_M_touch 3 (.iload_n 1) 1 4 := ⟨by decide +kernel, rfl⟩
theorem d_M_touch_4 : gD m_M_touch 4 .imul 1 5 := ⟨by decide +kernel, rfl⟩
theorem d_M_touch_5 : gD m_M_touch 5 (.bipush 100) 2 7 := ⟨by decide +kernel, rfl⟩
theorem d_M_touch_7 : gD m_M_touch 7 (.iload_n 2) 1 8 := ⟨by decide +kernel, rfl⟩
theorem d_M_touch_8 : gD m_M_touch 8 .imul 1 9 := ⟨by decide +kernel, rfl⟩
theorem d_M_touch_9 : gD m_M_touch 9 .iadd 1 10 := ⟨by decide +kernel, rfl⟩
theorem d_M_touch_10 : gD m_M_touch 10 (.iload_n 3) 1 11 := ⟨by decide +kernel, rfl⟩
theorem d_M_touch_11 : gD m_M_touch 11 .iadd 1 12 := ⟨by decide +kernel, rfl⟩
theorem d_M_touch_12 : gD m_M_touch 12 (.istore 4) 2 14 := ⟨by decide +kernel, rfl⟩
theorem d_M_touch_14 : gD m_M_touch 14 (.aload_n 0) 1 15 := ⟨by decide +kernel, rfl⟩
theorem d_M_touch_15 : gD m_M_touch 15 .dup 1 16 := ⟨by decide +kernel, rfl⟩
theorem d_M_touch_16 : gD m_M_touch 16 (.getfield 171) 3 19 := ⟨by decide +kernel, rfl⟩
theorem d_M_touch_19 : gD m_M_touch 19 (.iconst 1) 1 20 := ⟨by decide +kernel, rfl⟩
theorem d_M_touch_20 : gD m_M_touch 20 .iadd 1 21 := ⟨by decide +kernel, rfl⟩
theorem d_M_touch_21 : gD m_M_touch 21 (.putfield 171) 3 24 := ⟨by decide +kernel, rfl⟩
theorem d_M_touch_24 : gD m_M_touch 24 (.iconst 0) 1 25 := ⟨by decide +kernel, rfl⟩
theorem d_M_touch_25 : gD m_M_touch 25 (.istore 5) 2 27 := ⟨by decide +kernel, rfl⟩
theorem d_M_touch_27 : gD m_M_touch 27 (.iload 5) 2 29 := ⟨by decide +kernel, rfl⟩
theorem d_M_touch_29 : gD m_M_touch 29 (.aload_n 0) 1 30 := ⟨by decide +kernel, rfl⟩
theorem d_M_touch_30 : gD m_M_touch 30 (.getfield 69) 3 33 := ⟨by decide +kernel, rfl⟩
theorem d_M_touch_33 : gD m_M_touch 33 (.if_icmp .ge 30) 3 36 := ⟨by decide +kernel, rfl⟩
theorem d_M_touch_36 : gD m_M_touch 36 (.aload_n 0) 1 37 := ⟨by decide +kernel, rfl⟩
theorem d_M_touch_37 : gD m_M_touch 37 (.getfield 51) 3 40 := ⟨by decide +kernel, rfl⟩
theorem d_M_touch_40 : gD m_M_touch 40 (.iload 5) 2 42 := ⟨by decide +kernel, rfl⟩
theorem d_M_touch_42 : gD m_M_touch 42 .iaload 1 43 := ⟨by decide +kernel, rfl⟩
theorem d_M_touch_43 : gD m_M_touch 43 (.iload 4) 2 45 := ⟨by decide +kernel, rfl⟩
theorem d_M_touch_45 : gD m_M_touch 45 (.if_icmp .ne 12) 3 48 := ⟨by decide +kernel, rfl⟩
theorem d_M_touch_48 : gD m_M_touch 48 (.aload_n 0) 1 49 := ⟨by decide +kernel, rfl⟩
theorem d_M_touch_49 : gD m_M_touch 49 (.getfield 54) 3 52 := ⟨by decide +kernel, rfl⟩
theorem d_M_touch_52 : gD m_M_touch 52 (.iload 5) 2 54 := ⟨by decide +kernel, rfl⟩
theorem d_M_touch_54 : gD m_M_touch 54 (.iconst 1) 1 55 := ⟨by decide +kernel, rfl⟩
theorem d_M_touch_55 : gD m_M_touch 55 .bastore 1 56 := ⟨by decide +kernel, rfl⟩
theorem d_M_touch_56 : gD m_M_touch 56 .return_ 1 57 := ⟨by decide +kernel, rfl⟩
theorem d_M_touch_57 : gD m_M_touch 57 (.iinc 5 1) 3 60 := ⟨by decide +kernel, rfl⟩
theorem d_M_touch_60 : gD m_M_touch 60 (.goto (-33)) 3 63 := ⟨by decide +kernel, rfl⟩
theorem d_M_touch_63 : gD m_M_touch 63 (.aload_n 0) 1 64 := ⟨by decide +kernel, rfl⟩
theorem d_M_touch_64 : gD m_M_touch 64 .dup 1 65 := ⟨by decide +kernel, rfl⟩
theorem d_M_touch_65 : gD m_M_touch 65 (.getfield 174) 3 68 := ⟨by decide +kernel, rfl⟩
theorem d_M_touch_68 : gD m_M_touch 68 (.iconst 1) 1 69 := ⟨by decide +kernel, rfl⟩
theorem d_M_touch_69 : gD m_M_touch 69 .iadd 1 70 := ⟨by decide +kernel, rfl⟩
theorem d_M_touch_70 : gD m_M_touch 70 (.putfield 174) 3 73 := ⟨by decide +kernel, rfl⟩
theorem d_M_touch_73 : gD m_M_touch 73 (.aload_n 0) 1 74 := ⟨by decide +kernel, rfl⟩
theorem d_M_touch_74 : gD m_M_touch 74 (.getfield 54) 3 77 := ⟨by decide +kernel, rfl⟩
theorem d_M_touch_77 : gD m_M_touch 77 (.aload_n 0) 1 78 := ⟨by decide +kernel, rfl⟩
theorem d_M_touch_78 : gD m_M_touch 78 (.getfield 177) 3 81 := ⟨by decide +kernel, rfl⟩
theorem d_M_touch_81 : gD m_M_touch 81 .baload 1 82 := ⟨by decide +kernel, rfl⟩
theorem d_M_touch_82 : gD m_M_touch 82 (.ifCond .eq 31) 3 85 := ⟨by decide +kernel, rfl⟩
theorem d_M_touch_85 : gD m_M_touch 85 (.aload_n 0) 1 86 := ⟨by decide +kernel, rfl⟩
theorem d_M_touch_86 : gD m_M_touch 86 (.getfield 54) 3 89 := ⟨by decide +kernel, rfl⟩
theorem d_M_touch_89 : gD m_M_touch 89 (.aload_n 0) 1 90 := ⟨by decide +kernel, rfl⟩
theorem d_M_touch_90 : gD m_M_touch 90 (.getfield 177) 3 93 := ⟨by decide +kernel, rfl⟩
theorem d_M_touch_93 : gD m_M_touch 93 (.iconst 0) 1 94 := ⟨by decide +kernel, rfl⟩
theorem d_M_touch_94 : gD m_M_touch 94 .bastore 1 95 := ⟨by decide +kernel, rfl⟩
theorem d_M_touch_95 : gD m_M_touch 95 (.aload_n 0) 1 96 := ⟨by decide +kernel, rfl⟩
theorem d_M_touch_96 : gD m_M_touch 96 (.aload_n 0) 1 97 := ⟨by decide +kernel, rfl⟩
theorem d_M_touch_97 : gD m_M_touch 97 (.getfield 177) 3 100 := ⟨by decide +kernel, rfl⟩
theorem d_M_touch_100 : gD m_M_touch 100 (.iconst 1) 1 101 := ⟨by decide +kernel, rfl⟩
theorem d_M_touch_101 : gD m_M_touch 101 .iadd 1 102 := ⟨by decide +kernel, rfl⟩
theorem d_M_touch_102 : gD m_M_touch 102 (.aload_n 0) 1 103 := ⟨by decide +kernel, rfl⟩
theorem d_M_touch_103 : gD m_M_touch 103 (.getfield 69) 3 106 := ⟨by decide +kernel, rfl⟩
theorem d_M_touch_106 : gD m_M_touch 106 .irem 1 107 := ⟨by decide +kernel, rfl⟩
theorem d_M_touch_107 : gD m_M_touch 107 (.putfield 177) 3 110 := ⟨by decide +kernel, rfl⟩
theorem d_M_touch_110 : gD m_M_touch 110 (.goto (-37)) 3 113 := ⟨by decide +kernel, rfl⟩
theorem d_M_touch_113 : gD m_M_touch 113 (.aload_n 0) 1 114 := ⟨by decide +kernel, rfl⟩
theorem d_M_touch_114 : gD m_M_touch 114 (.getfield 51) 3 117 := ⟨by decide +kernel, rfl⟩
theorem d_M_touch_117 : gD m_M_touch 117 (.aload_n 0) 1 118 := ⟨by decide +kernel, rfl⟩
theorem d_M_touch_118 : gD m_M_touch 118 (.getfield 177) 3 121 := ⟨by decide +kernel, rfl⟩
theorem d_M_touch_121 : gD m_M_touch 121 (.iload 4) 2 123 := ⟨by decide +kernel, rfl⟩
theorem d_M_touch_123 : gD m_M_touch 123 .iastore 1 124 := ⟨by decide +kernel, rfl⟩
theorem d_M_touch_124 : gD m_M_touch 124 (.aload_n 0) 1 125 := ⟨by decide +kernel, rfl⟩
theorem d_M_touch_125 : gD m_M_touch 125 (.getfield 54) 3 128 := ⟨by decide +kernel, rfl⟩
theorem d_M_touch_128 : gD m_M_touch 128 (.aload_n 0) 1 129 := ⟨by decide +kernel, rfl⟩
theorem d_M_touch_129 : gD m_M_touch 129 (.getfield 177) 3 132 := ⟨by decide +kernel, rfl⟩
theorem d_M_touch_132 : gD m_M_touch 132 (.iconst 1) 1 133 := ⟨by decide +kernel, rfl⟩
theorem d_M_touch_133 : gD m_M_touch 133 .bastore 1 134 := ⟨by decide +kernel, rfl⟩
theorem d_M_touch_134 : gD m_M_touch 134 (.aload_n 0) 1 135 := ⟨by decide +kernel, rfl⟩
theorem d_M_touch_135 : gD m_M_touch 135 (.aload_n 0) 1 136 := ⟨by decide +kernel, rfl⟩
theorem d_M_touch_136 : gD m_M_touch 136 (.getfield 177) 3 139 := ⟨by decide +kernel, rfl⟩
theorem d_M_touch_139 : gD m_M_touch 139 (.iconst 1) 1 140 := ⟨by decide +kernel, rfl⟩
theorem d_M_touch_140 : gD m_M_touch 140 .iadd 1 141 := ⟨by decide +kernel, rfl⟩
theorem d_M_touch_141 : gD m_M_touch 141 (.aload_n 0) 1 142 := ⟨by decide +kernel, rfl⟩
theorem d_M_touch_142 : gD m_M_touch 142 (.getfield 69) 3 145 := ⟨by decide +kernel, rfl⟩
theorem d_M_touch_145 : gD m_M_touch 145 .irem 1 146 := ⟨by decide +kernel, rfl⟩
theorem d_M_touch_146 : gD m_M_touch 146 (.putfield 177) 3 149 := ⟨by decide +kernel, rfl⟩
theorem d_M_touch_149 : gD m_M_touch 149 .return_ 1 150 := ⟨by decide +kernel, rfl⟩
theorem d_M_touchIndex_0 : gD m_M_touchIndex 0 (.aload_n 0) 1 1 := ⟨by decide +kernel, rfl⟩
theorem d_M_touchIndex_1 : gD m_M_touchIndex 1 (.iconst 0) 1 2 := ⟨by decide +kernel, rfl⟩
theorem d_M_touchIndex_2 : gD m_M_touchIndex 2 (.iload_n 1) 1 3 := ⟨by decide +kernel, rfl⟩
theorem d_M_touchIndex_3 : gD m_M_touchIndex 3 (.invokevirtual 156) 3 6 := ⟨by decide +kernel, rfl⟩
theorem d_M_touchIndex_6 : gD m_M_touchIndex 6 (.aload_n 0) 1 7 := ⟨by decide +kernel, rfl⟩
theorem d_M_touchIndex_7 : gD m_M_touchIndex 7 (.invokevirtual 180) 3 10 := ⟨by decide +kernel, rfl⟩
theorem d_M_touchIndex_10 : gD m_M_touchIndex 10 (.istore_n 2) 1 11 := ⟨by decide +kernel, rfl⟩
theorem d_M_touchIndex_11 : gD m_M_touchIndex 11 (.aload_n 0) 1 12 := ⟨by decide +kernel, rfl⟩
theorem d_M_touchIndex_12 : gD m_M_touchIndex 12 (.invokevirtual 159) 3 15 := ⟨by decide +kernel, rfl⟩
theorem d_M_touchIndex_15 : gD m_M_touchIndex 15 (.istore_n 3) 1 16 := ⟨by decide +kernel, rfl⟩
theorem d_M_touchIndex_16 : gD m_M_touchIndex 16 (.aload_n 0) 1 17 := ⟨by decide +kernel, rfl⟩
theorem d_M_touchIndex_17 : gD m_M_touchIndex 17 (.invokevirtual 126) 3 20 := ⟨by decide +kernel, rfl⟩
theorem d_M_touchIndex_20 : gD m_M_touchIndex 20 (.istore 4) 2 22 := ⟨by decide +kernel, rfl⟩
theorem d_M_touchIndex_22 : gD m_M_touchIndex 22 (.iload 4) 2 24 := ⟨by decide +kernel, rfl⟩
theorem d_M_touchIndex_24 : gD m_M_touchIndex 24 (.ifCond .le 43) 3 27 := ⟨by decide +kernel, rfl⟩
theorem d_M_touchIndex_27 : gD m_M_touchIndex 27 (.iload_n 2) 1 28 := ⟨by decide +kernel, rfl⟩
theorem d_M_touchIndex_28 : gD m_M_touchIndex 28 (.istore 5) 2 30 := ⟨by decide +kernel, rfl⟩
theorem d_M_touchIndex_30 : gD m_M_touchIndex 30 (.iconst 0) 1 31 := ⟨by decide +kernel, rfl⟩
theorem d_M_touchIndex_31 : gD m_M_touchIndex 31 (.istore 6) 2 33 := ⟨by decide +kernel, rfl⟩
theorem d_M_touchIndex_33 : gD m_M_touchIndex 33 (.iload 6) 2 35 := ⟨by decide +kernel, rfl⟩
theorem d_M_touchIndex_35 : gD m_M_touchIndex 35 (.iload 4) 2 37 := ⟨by decide +kernel, rfl⟩
theorem d_M_touchIndex_37 : gD m_M_touchIndex 37 (.if_icmp .ge 15) 3 40 := ⟨by decide +kernel, rfl⟩
theorem d_M_touchIndex_40 : gD m_M_touchIndex 40 (.iload 5) 2 42 := ⟨by decide +kernel, rfl⟩
theorem d_M_touchIndex_42 : gD m_M_touchIndex 42 (.iconst 4) 1 43 := ⟨by decide +kernel, rfl⟩
theorem d_M_touchIndex_43 : gD m_M_touchIndex 43 .idiv 1 44 := ⟨by decide +kernel, rfl⟩
theorem d_M_touchIndex_44 : gD m_M_touchIndex 44 (.istore 5) 2 46 := ⟨by decide +kernel, rfl⟩
theorem d_M_touchIndex_46 : gD m_M_touchIndex 46 (.iinc 6 1) 3 49 := ⟨by decide +kernel, rfl⟩
theorem d_M_touchIndex_49 : gD m_M_touchIndex 49 (.goto (-16)) 3 52 := ⟨by decide +kernel, rfl⟩
theorem d_M_touchIndex_52 : gD m_M_touchIndex 52 (.aload_n 0) 1 53 := ⟨by decide +kernel, rfl⟩
theorem d_M_touchIndex_53 : gD m_M_touchIndex 53 (.iload_n 1) 1 54 := ⟨by decide +kernel, rfl⟩
theorem d_M_touchIndex_54 : gD m_M_touchIndex 54 (.iload 4) 2 56 := ⟨by decide +kernel, rfl⟩
theorem d_M_touchIndex_56 : gD m_M_touchIndex 56 (.iload 5) 2 58 := ⟨by decide +kernel, rfl⟩
theorem d_M_touchIndex_58 : gD m_M_touchIndex 58 (.invokevirtual 183) 3 61 := ⟨by decide +kernel, rfl⟩
theorem d_M_touchIndex_61 : gD m_M_touchIndex 61 (.iinc 4 (-1)) 3 64 := ⟨by decide +kernel, rfl⟩
theorem d_M_touchIndex_64 : gD m_M_touchIndex 64 (.goto (-42)) 3 67 := ⟨by decide +kernel, rfl⟩
theorem d_M_touchIndex_67 : gD m_M_touchIndex 67 (.iconst 0) 1 68 := ⟨by decide +kernel, rfl⟩
theorem d_M_touchIndex_68 : gD m_M_touchIndex 68 (.istore 4) 2 70 := ⟨by decide +kernel, rfl⟩
theorem d_M_touchIndex_70 : gD m_M_touchIndex 70 (.iload 4) 2 72 := ⟨by decide +kernel, rfl⟩
theorem d_M_touchIndex_72 : gD m_M_touchIndex 72 (.iload_n 3) 1 73 := ⟨by decide +kernel, rfl⟩
theorem d_M_touchIndex_73 : gD m_M_touchIndex 73 (.if_icmp .ge 19) 3 76 := ⟨by decide +kernel, rfl⟩
theorem d_M_touchIndex_76 : gD m_M_touchIndex 76 (.aload_n 0) 1 77 := ⟨by decide +kernel, rfl⟩
theorem d_M_touchIndex_77 : gD m_M_touchIndex 77 (.iload_n 1) 1 78 := ⟨by decide +kernel, rfl⟩
theorem d_M_touchIndex_78 : gD m_M_touchIndex 78 (.iconst 0) 1 79 := ⟨by decide +kernel, rfl⟩
theorem d_M_touchIndex_79 : gD m_M_touchIndex 79 (.iload_n 2) 1 80 := ⟨by decide +kernel, rfl⟩
theorem d_M_touchIndex_80 : gD m_M_touchIndex 80 (.iload 4) 2 82 := ⟨by decide +kernel, rfl⟩
theorem d_M_touchIndex_82 : gD m_M_touchIndex 82 .iadd 1 83 := ⟨by decide +kernel, rfl⟩
theorem d_M_touchIndex_83 : gD m_M_touchIndex 83 (.invokevirtual 183) 3 86 := ⟨by decide +kernel, rfl⟩
theorem d_M_touchIndex_86 : gD m_M_touchIndex 86 (.iinc 4 1) 3 89 := ⟨by decide +kernel, rfl⟩
theorem d_M_touchIndex_89 : gD m_M_touchIndex 89 (.goto (-19)) 3 92 := ⟨by decide +kernel, rfl⟩
theorem d_M_touchIndex_92 : gD m_M_touchIndex 92 (.aload_n 0) 1 93 := ⟨by decide +kernel, rfl⟩
theorem d_M_touchIndex_93 : gD m_M_touchIndex 93 (.getfield 144) 3 96 := ⟨by decide +kernel, rfl⟩
theorem d_M_touchIndex_96 : gD m_M_touchIndex 96 (.istore 4) 2 98 := ⟨by decide +kernel, rfl⟩
theorem d_M_touchIndex_98 : gD m_M_touchIndex 98 (.iload 4) 2 100 := ⟨by decide +kernel, rfl⟩
theorem d_M_touchIndex_100 : gD m_M_touchIndex 100 (.aload_n 0) 1 101 := ⟨by decide +kernel, rfl⟩
theorem d_M_touchIndex_101 : gD m_M_touchIndex 101 (.getfield 150) 3 104 := ⟨by decide +kernel, rfl⟩
theorem d_M_touchIndex_104 : gD m_M_touchIndex 104 (.if_icmp .ge 25) 3 107 := ⟨by decide +kernel, rfl⟩
theorem d_M_touchIndex_107 : gD m_M_touchIndex 107 (.aload_n 0) 1 108 := ⟨by decide +kernel, rfl⟩
theorem d_M_touchIndex_108 : gD m_M_touchIndex 108 (.bipush 9) 2 110 := ⟨by decide +kernel, rfl⟩
theorem d_M_touchIndex_110 : gD m_M_touchIndex 110 (.iconst 0) 1 111 := ⟨by decide +kernel, rfl⟩
theorem d_M_touchIndex_111 : gD m_M_touchIndex 111 (.aload_n 0) 1 112 := ⟨by decide +kernel, rfl⟩
theorem d_M_touchIndex_112 : gD m_M_touchIndex 112 (.getfield 63) 3 115 := ⟨by decide +kernel, rfl⟩
theorem d_M_touchIndex_115 : gD m_M_touchIndex 115 (.iload 4) 2 117 := ⟨by decide +kernel, rfl⟩
theorem d_M_touchIndex_117 : gD m_M_touchIndex 117 .iaload 1 118 := ⟨by decide +kernel, rfl⟩
theorem d_M_touchIndex_118 : gD m_M_touchIndex 118 (.iconst 4) 1 119 := ⟨by decide +kernel, rfl⟩
theorem d_M_touchIndex_119 : gD m_M_touchIndex 119 .idiv 1 120 := ⟨by decide +kernel, rfl⟩
theorem d_M_touchIndex_120 : gD m_M_touchIndex 120 (.invokevirtual 183) 3 123 := ⟨by decide +kernel, rfl⟩
theorem d_M_touchIndex_123 : gD m_M_touchIndex 123 (.iinc 4 1) 3 126 := ⟨by decide +kernel, rfl⟩
theorem d_M_touchIndex_126 : gD m_M_touchIndex 126 (.goto (-28)) 3 129 := ⟨by decide +kernel, rfl⟩
theorem d_M_touchIndex_129 : gD m_M_touchIndex 129 .return_ 1 130 := ⟨by decide +kernel, rfl⟩
theorem d_M_firstLeaf_0 : gD m_M_firstLeaf 0 (.aload_n 0) 1 1 := ⟨by decide +kernel, rfl⟩
theorem d_M_firstLeaf_1 : gD m_M_firstLeaf 1 (.getfield 144) 3 4 := ⟨by decide +kernel, rfl⟩
theorem d_M_firstLeaf_4 : gD m_M_firstLeaf 4 (.iconst 4) 1 5 := ⟨by decide +kernel, rfl⟩
theorem d_M_firstLeaf_5 : gD m_M_firstLeaf 5 .idiv 1 6 := ⟨by decide +kernel, rfl⟩
theorem d_M_firstLeaf_6 : gD m_M_firstLeaf 6 (.istore_n 1) 1 7 := ⟨by decide +kernel, rfl⟩
theorem d_M_firstLeaf_7 : gD m_M_firstLeaf 7 (.iload_n 1) 1 8 := ⟨by decide +kernel, rfl⟩
theorem d_M_firstLeaf_8 : gD m_M_firstLeaf 8 (.aload_n 0) 1 9 := ⟨by decide +kernel, rfl⟩
theorem d_M_firstLeaf_9 : gD m_M_firstLeaf 9 (.invokevirtual 120) 3 12 := ⟨by decide +kernel, rfl⟩
theorem d_M_firstLeaf_12 : gD m_M_firstLeaf 12 (.if_icmp .ge 7) 3 15 := ⟨by decide +kernel, rfl⟩
theorem d_M_firstLeaf_15 : gD m_M_firstLeaf 15 (.iload_n 1) 1 16 := ⟨by decide +kernel, rfl⟩
theorem d_M_firstLeaf_16 : gD m_M_firstLeaf 16 (.goto 9) 3 19 := ⟨by decide +kernel, rfl⟩
theorem d_M_firstLeaf_19 : gD m_M_firstLeaf 19 (.aload_n 0) 1 20 := ⟨by decide +kernel, rfl⟩
theorem d_M_firstLeaf_20 : gD m_M_firstLeaf 20 (.invokevirtual 120) 3 23 := ⟨by decide +kernel, rfl⟩
theorem d_M_firstLeaf_23 : gD m_M_firstLeaf 23 (.iconst 1) 1 24 := ⟨by decide +kernel, rfl⟩
theorem d_M_firstLeaf_24 : gD m_M_firstLeaf 24 .isub 1 25 := ⟨by decide +kernel, rfl⟩
theorem d_M_firstLeaf_25 : gD m_M_firstLeaf 25 .ireturn 1 26 := ⟨by decide +kernel, rfl⟩
theorem d_M_remember_0 : gD m_M_remember 0 (.aload_n 0) 1 1 := ⟨by decide +kernel, rfl⟩
theorem d_M_remember_1 : gD m_M_remember 1 (.invokevirtual 190) 3 4 := ⟨by decide +kernel, rfl⟩
theorem d_M_remember_4 : gD m_M_remember 4 (.istore_n 1) 1 5 := ⟨by decide +kernel, rfl⟩
theorem d_M_remember_5 : gD m_M_remember 5 (.iload_n 1) 1 6 := ⟨by decide +kernel, rfl⟩
theorem d_M_remember_6 : gD m_M_remember 6 (.ifCond .ge 4) 3 9 := ⟨by decide +kernel, rfl⟩
theorem d_M_remember_9 : gD m_M_remember 9 .return_ 1 10 := ⟨by decide +kernel, rfl⟩
theorem d_M_remember_10 : gD m_M_remember 10 (.iload_n 1) 1 11 := ⟨by decide +kernel, rfl⟩
theorem d_M_remember_11 : gD m_M_remember 11 (.aload_n 0) 1 12 := ⟨by decide +kernel, rfl⟩
theorem d_M_remember_12 : gD m_M_remember 12 (.getfield 187) 3 15 := ⟨by decide +kernel, rfl⟩
theorem d_M_remember_15 : gD m_M_remember 15 (.if_icmp .le 17) 3 18 := ⟨by decide +kernel, rfl⟩
theorem d_M_remember_18 : gD m_M_remember 18 (.aload_n 0) 1 19 := ⟨by decide +kernel, rfl⟩
theorem d_M_remember_19 : gD m_M_remember 19 (.iload_n 1) 1 20 := ⟨by decide +kernel, rfl⟩
theorem d_M_remember_20 : gD m_M_remember 20 (.putfield 187) 3 23 := ⟨by decide +kernel, rfl⟩
theorem d_M_remember_23 : gD m_M_remember 23 (.aload_n 0) 1 24 := ⟨by decide +kernel, rfl⟩
theorem d_M_remember_24 : gD m_M_remember 24 (.getfield 45) 3 27 := ⟨by decide +kernel, rfl⟩
theorem d_M_remember_27 : gD m_M_remember 27 (.iload_n 1) 1 28 := ⟨by decide +kernel, rfl⟩
theorem d_M_remember_28 : gD m_M_remember 28 (.iconst 1) 1 29 := ⟨by decide +kernel, rfl⟩
theorem d_M_remember_29 : gD m_M_remember 29 .isub 1 30 := ⟨by decide +kernel, rfl⟩
theorem d_M_remember_30 : gD m_M_remember 30 (.iconst 0) 1 31 := ⟨by decide +kernel, rfl⟩
theorem d_M_remember_31 : gD m_M_remember 31 .iastore 1 32 := ⟨by decide +kernel, rfl⟩
theorem d_M_remember_32 : gD m_M_remember 32 (.aload_n 0) 1 33 := ⟨by decide +kernel, rfl⟩
theorem d_M_remember_33 : gD m_M_remember 33 (.getfield 45) 3 36 := ⟨by decide +kernel, rfl⟩
theorem d_M_remember_36 : gD m_M_remember 36 (.iload_n 1) 1 37 := ⟨by decide +kernel, rfl⟩
theorem d_M_remember_37 : gD m_M_remember 37 (.iconst 1) 1 38 := ⟨by decide +kernel, rfl⟩
theorem d_M_remember_38 : gD m_M_remember 38 .isub 1 39 := ⟨by decide +kernel, rfl⟩
theorem d_M_remember_39 : gD m_M_remember 39 (.aload_n 0) 1 40 := ⟨by decide +kernel, rfl⟩
theorem d_M_remember_40 : gD m_M_remember 40 (.getfield 45) 3 43 := ⟨by decide +kernel, rfl⟩
theorem d_M_remember_43 : gD m_M_remember 43 (.iload_n 1) 1 44 := ⟨by decide +kernel, rfl⟩
theorem d_M_remember_44 : gD m_M_remember 44 (.iconst 1) 1 45 := ⟨by decide +kernel, rfl⟩
theorem d_M_remember_45 : gD m_M_remember 45 .isub 1 46 := ⟨by decide +kernel, rfl⟩
theorem d_M_remember_46 : gD m_M_remember 46 .iaload 1 47 := ⟨by decide +kernel, rfl⟩
theorem d_M_remember_47 : gD m_M_remember 47 (.bipush 16) 2 49 := ⟨by decide +kernel, rfl⟩
theorem d_M_remember_49 : gD m_M_remember 49 .iadd 1 50 := ⟨by decide +kernel, rfl⟩
theorem d_M_remember_50 : gD m_M_remember 50 .iastore 1 51 := ⟨by decide +kernel, rfl⟩
theorem d_M_remember_51 : gD m_M_remember 51 (.aload_n 0) 1 52 := ⟨by decide +kernel, rfl⟩
theorem d_M_remember_52 : gD m_M_remember 52 (.iload_n 1) 1 53 := ⟨by decide +kernel, rfl⟩
theorem d_M_remember_53 : gD m_M_remember 53 (.iconst 0) 1 54 := ⟨by decide +kernel, rfl⟩
theorem d_M_remember_54 : gD m_M_remember 54 (.invokevirtual 193) 3 57 := ⟨by decide +kernel, rfl⟩
theorem d_M_remember_57 : gD m_M_remember 57 .return_ 1 58 := ⟨by decide +kernel, rfl⟩
theorem d_M_findShape_0 : gD m_M_findShape 0 (.iconst 1) 1 1 := ⟨by decide +kernel, rfl⟩
theorem d_M_findShape_1 : gD m_M_findShape 1 (.istore_n 1) 1 2 := ⟨by decide +kernel, rfl⟩
theorem d_M_findShape_2 : gD m_M_findShape 2 (.iload_n 1) 1 3 := ⟨by decide +kernel, rfl⟩
theorem d_M_findShape_3 : gD m_M_findShape 3 (.aload_n 0) 1 4 := ⟨by decide +kernel, rfl⟩
theorem d_M_findShape_4 : gD m_M_findShape 4 (.getfield 187) 3 7 := ⟨by decide +kernel, rfl⟩
theorem d_M_findShape_7 : gD m_M_findShape 7 (.if_icmp .gt 66) 3 10 := ⟨by decide +kernel, rfl⟩
theorem d_M_findShape_10 : gD m_M_findShape 10 (.aload_n 0) 1 11 := ⟨by decide +kernel, rfl⟩
theorem d_M_findShape_11 : gD m_M_findShape 11 (.getfield 30) 3 14 := ⟨by decide +kernel, rfl⟩
theorem d_M_findShape_14 : gD m_M_findShape 14 (.iconst 3) 1 15 := ⟨by decide +kernel, rfl⟩
theorem d_M_findShape_15 : gD m_M_findShape 15 (.iload_n 1) 1 16 := ⟨by decide +kernel, rfl⟩
theorem d_M_findShape_16 : gD m_M_findShape 16 .imul 1 17 := ⟨by decide +kernel, rfl⟩
theorem d_M_findShape_17 : gD m_M_findShape 17 .iaload 1 18 := ⟨by decide +kernel, rfl⟩
theorem d_M_findShape_18 : gD m_M_findShape 18 (.aload_n 0) 1 19 := ⟨by decide +kernel, rfl⟩
theorem d_M_findShape_19 : gD m_M_findShape 19 (.getfield 30) 3 22 := ⟨by decide +kernel, rfl⟩
theorem d_M_findShape_22 : gD m_M_findShape 22 (.iconst 0) 1 23 := ⟨by decide +kernel, rfl⟩
theorem d_M_findShape_23 : gD m_M_findShape 23 .iaload 1 24 := ⟨by decide +kernel, rfl⟩
theorem d_M_findShape_24 : gD m_M_findShape 24 (.if_icmp .ne 43) 3 27 := ⟨by decide +kernel, rfl⟩
theorem d_M_findShape_27 : gD m_M_findShape 27 (.aload_n 0) 1 28 := ⟨by decide +kernel, rfl⟩
theorem d_M_findShape_28 : gD m_M_findShape 28 (.getfield 30) 3 31 := ⟨by decide +kernel, rfl⟩
theorem d_M_findShape_31 : gD m_M_findShape 31 (.iconst 3) 1 32 := ⟨by decide +kernel, rfl⟩
theorem d_M_findShape_32 : gD m_M_findShape 32 (.iload_n 1) 1 33 := ⟨by decide +kernel, rfl⟩
theorem d_M_findShape_33 : gD m_M_findShape 33 .imul 1 34 := ⟨by decide +kernel, rfl⟩
theorem d_M_findShape_34 : gD m_M_findShape 34 (.iconst 1) 1 35 := ⟨by decide +kernel, rfl⟩
theorem d_M_findShape_35 : gD m_M_findShape 35 .iadd 1 36 := ⟨by decide +kernel, rfl⟩
theorem d_M_findShape_36 : gD m_M_findShape 36 .iaload 1 37 := ⟨by decide +kernel, rfl⟩
theorem d_M_findShape_37 : gD m_M_findShape 37 (.aload_n 0) 1 38 := ⟨by decide +kernel, rfl⟩
theorem d_M_findShape_38 : gD m_M_findShape 38 (.getfield 30) 3 41 := ⟨by decide +kernel, rfl⟩
theorem d_M_findShape_41 : gD m_M_findShape 41 (.iconst 1) 1 42 := ⟨by decide +kernel, rfl⟩
theorem d_M_findShape_42 : gD m_M_findShape 42 .iaload 1 43 := ⟨by decide +kernel, rfl⟩
theorem d_M_findShape_43 : gD m_M_findShape 43 (.if_icmp .ne 24) 3 46 := ⟨by decide +kernel, rfl⟩
theorem d_M_findShape_46 : gD m_M_findShape 46 (.aload_n 0) 1 47 := ⟨by decide +kernel, rfl⟩
theorem d_M_findShape_47 : gD m_M_findShape 47 (.getfield 30) 3 50 := ⟨by decide +kernel, rfl⟩
theorem d_M_findShape_50 : gD m_M_findShape 50 (.iconst 3) 1 51 := ⟨by decide +kernel, rfl⟩
theorem d_M_findShape_51 : gD m_M_findShape 51 (.iload_n 1) 1 52 := ⟨by decide +kernel, rfl⟩
theorem d_M_findShape_52 : gD m_M_findShape 52 .imul 1 53 := ⟨by decide +kernel, rfl⟩
theorem d_M_findShape_53 : gD m_M_findShape 53 (.iconst 2) 1 54 := ⟨by decide +kernel, rfl⟩
theorem d_M_findShape_54 : gD m_M_findShape 54 .iadd 1 55 := ⟨by decide +kernel, rfl⟩
theorem d_M_findShape_55 : gD m_M_findShape 55 .iaload 1 56 := ⟨by decide +kernel, rfl⟩
theorem d_M_findShape_56 : gD m_M_findShape 56 (.aload_n 0) 1 57 := ⟨by decide +kernel, rfl⟩
theorem d_M_findShape_57 : gD m_M_findShape 57 (.getfield 30) 3 60 := ⟨by decide +kernel, rfl⟩
theorem d_M_findShape_60 : gD m_M_findShape 60 (.iconst 2) 1 61 := ⟨by decide +kernel, rfl⟩
theorem d_M_findShape_61 : gD m_M_findShape 61 .iaload 1 62 := ⟨by decide +kernel, rfl⟩
theorem d_M_findShape_62 : gD m_M_findShape 62 (.if_icmp .ne 5) 3 65 := ⟨by decide +kernel, rfl⟩
theorem d_M_findShape_65 : gD m_M_findShape 65 (.iload_n 1) 1 66 := ⟨by decide +kernel, rfl⟩
theorem d_M_findShape_66 : gD m_M_findShape 66 .ireturn 1 67 := ⟨by decide +kernel, rfl⟩
theorem d_M_findShape_67 : gD m_M_findShape 67 (.iinc 1 1) 3 70 := ⟨by decide +kernel, rfl⟩
theorem d_M_findShape_70 : gD m_M_findShape 70 (.goto (-68)) 3 73 := ⟨by decide +kernel, rfl⟩
theorem d_M_findShape_73 : gD m_M_findShape 73 (.aload_n 0) 1 74 := ⟨by decide +kernel, rfl⟩
theorem d_M_findShape_74 : gD m_M_findShape 74 (.getfield 187) 3 77 := ⟨by decide +kernel, rfl⟩
theorem d_M_findShape_77 : gD m_M_findShape 77 (.bipush 8) 2 79 := ⟨by decide +kernel, rfl⟩
theorem d_M_findShape_79 : gD m_M_findShape 79 (.if_icmp .ne 7) 3 82 := ⟨by decide +kernel, rfl⟩
theorem d_M_findShape_82 : gD m_M_findShape 82 (.iconst (-1)) 1 83 := ⟨by decide +kernel, rfl⟩
theorem d_M_findShape_83 : gD m_M_findShape 83 (.goto 9) 3 86 := ⟨by decide +kernel, rfl⟩
theorem d_M_findShape_86 : gD m_M_findShape 86 (.aload_n 0) 1 87 := ⟨by decide +kernel, rfl⟩
theorem d_M_findShape_87 : gD m_M_findShape 87 (.getfield 187) 3 90 := ⟨by decide +kernel, rfl⟩
theorem d_M_findShape_90 : gD m_M_findShape 90 (.iconst 1) 1 91 := ⟨by decide +kernel, rfl⟩
theorem d_M_findShape_91 : gD m_M_findShape 91 .iadd 1 92 := ⟨by decide +kernel, rfl⟩
theorem d_M_findShape_92 : gD m_M_findShape 92 .ireturn 1 93 := ⟨by decide +kernel, rfl⟩
theorem d_M_copyShape_0 : gD m_M_copyShape 0 (.iconst 0) 1 1 := ⟨by decide +kernel, rfl⟩
theorem d_M_copyShape_1 : gD m_M_copyShape 1 (.istore_n 3) 1 2 := ⟨by decide +kernel, rfl⟩
theorem d_M_copyShape_2 : gD m_M_copyShape 2 (.iload_n 3) 1 3 := ⟨by decide +kernel, rfl⟩
theorem d_M_copyShape_3 : gD m_M_copyShape 3 (.iconst 3) 1 4 := ⟨by decide +kernel, rfl⟩
theorem d_M_copyShape_4 : gD m_M_copyShape 4 (.if_icmp .ge 69) 3 7 := ⟨by decide +kernel, rfl⟩
theorem d_M_copyShape_7 : gD m_M_copyShape 7 (.aload_n 0) 1 8 := ⟨by decide +kernel, rfl⟩
theorem d_M_copyShape_8 : gD m_M_copyShape 8 (.getfield 30) 3 11 := ⟨by decide +kernel, rfl⟩
theorem d_M_copyShape_11 : gD m_M_copyShape 11 (.iconst 3) 1 12 := ⟨by decide +kernel, rfl⟩
theorem d_M_copyShape_12 : gD m_M_copyShape 12 (.iload_n 1) 1 13 := ⟨by decide +kernel, rfl⟩
theorem d_M_copyShape_13 : gD m_M_copyShape 13 .imul 1 14 := ⟨by decide +kernel, rfl⟩
theorem d_M_copyShape_14 : gD m_M_copyShape 14 (.iload_n 3) 1 15 := ⟨by decide +kernel, rfl⟩
theorem d_M_copyShape_15 : gD m_M_copyShape 15 .iadd 1 16 := ⟨by decide +kernel, rfl⟩
theorem d_M_copyShape_16 : gD m_M_copyShape 16 (.aload_n 0) 1 17 := ⟨by decide +kernel, rfl⟩
theorem d_M_copyShape_17 : gD m_M_copyShape 17 (.getfield 30) 3 20 := ⟨by decide +kernel, rfl⟩
theorem d_M_copyShape_20 : gD m_M_copyShape 20 (.iconst 3) 1 21 := ⟨by decide +kernel, rfl⟩
theorem d_M_copyShape_21 : gD m_M_copyShape 21 (.iload_n 2) 1 22 := ⟨by decide +kernel, rfl⟩
theorem d_M_copyShape_22 : gD m_M_copyShape 22 .imul 1 23 := ⟨by decide +kernel, rfl⟩
theorem d_M_copyShape_23 : gD m_M_copyShape 23 (.iload_n 3) 1 24 := ⟨by decide +kernel, rfl⟩
theorem d_M_copyShape_24 : gD m_M_copyShape 24 .iadd 1 25 := ⟨by decide +kernel, rfl⟩
theorem d_M_copyShape_25 : gD m_M_copyShape 25 .iaload 1 26 := ⟨by decide +kernel, rfl⟩
theorem d_M_copyShape_26 : gD m_M_copyShape 26 .iastore 1 27 := ⟨by decide +kernel, rfl⟩
theorem d_M_copyShape_27 : gD m_M_copyShape 27 (.aload_n 0) 1 28 := ⟨by decide +kernel, rfl⟩
theorem d_M_copyShape_28 : gD m_M_copyShape 28 (.getfield 33) 3 31 := ⟨by decide +kernel, rfl⟩
theorem d_M_copyShape_31 : gD m_M_copyShape 31 (.iconst 3) 1 32 := ⟨by decide +kernel, rfl⟩
theorem d_M_copyShape_32 : gD m_M_copyShape 32 (.iload_n 1) 1 33 := ⟨by decide +kernel, rfl⟩
theorem d_M_copyShape_33 : gD m_M_copyShape 33 .imul 1 34 := ⟨by decide +kernel, rfl⟩
theorem d_M_copyShape_34 : gD m_M_copyShape 34 (.iload_n 3) 1 35 := ⟨by decide +kernel, rfl⟩
theorem d_M_copyShape_35 : gD m_M_copyShape 35 .iadd 1 36 := ⟨by decide +kernel, rfl⟩
theorem d_M_copyShape_36 : gD m_M_copyShape 36 (.aload_n 0) 1 37 := ⟨by decide +kernel, rfl⟩
theorem d_M_copyShape_37 : gD m_M_copyShape 37 (.getfield 33) 3 40 := ⟨by decide +kernel, rfl⟩
theorem d_M_copyShape_40 : gD m_M_copyShape 40 (.iconst 3) 1 41 := ⟨by decide +kernel, rfl⟩
theorem d_M_copyShape_41 : gD m_M_copyShape 41 (.iload_n 2) 1 42 := ⟨by decide +kernel, rfl⟩
theorem d_M_copyShape_42 : gD m_M_copyShape 42 .imul 1 43 := ⟨by decide +kernel, rfl⟩
theorem d_M_copyShape_43 : gD m_M_copyShape 43 (.iload_n 3) 1 44 := ⟨by decide +kernel, rfl⟩
theorem d_M_copyShape_44 : gD m_M_copyShape 44 .iadd 1 45 := ⟨by decide +kernel, rfl⟩
theorem d_M_copyShape_45 : gD m_M_copyShape 45 .iaload 1 46 := ⟨by decide +kernel, rfl⟩
theorem d_M_copyShape_46 : gD m_M_copyShape 46 .iastore 1 47 := ⟨by decide +kernel, rfl⟩
theorem d_M_copyShape_47 : gD m_M_copyShape 47 (.aload_n 0) 1 48 := ⟨by decide +kernel, rfl⟩
theorem d_M_copyShape_48 : gD m_M_copyShape 48 (.getfield 36) 3 51 := ⟨by decide +kernel, rfl⟩
theorem d_M_copyShape_51 : gD m_M_copyShape 51 (.iconst 3) 1 52 := ⟨by decide +kernel, rfl⟩
theorem d_M_copyShape_52 : gD m_M_copyShape 52 (.iload_n 1) 1 53 := ⟨by decide +kernel, rfl⟩
theorem d_M_copyShape_53 : gD m_M_copyShape 53 .imul 1 54 := ⟨by decide +kernel, rfl⟩
theorem d_M_copyShape_54 : gD m_M_copyShape 54 (.iload_n 3) 1 55 := ⟨by decide +kernel, rfl⟩
theorem d_M_copyShape_55 : gD m_M_copyShape 55 .iadd 1 56 := ⟨by decide +kernel, rfl⟩
theorem d_M_copyShape_56 : gD m_M_copyShape 56 (.aload_n 0) 1 57 := ⟨by decide +kernel, rfl⟩
theorem d_M_copyShape_57 : gD m_M_copyShape 57 (.getfield 36) 3 60 := ⟨by decide +kernel, rfl⟩
theorem d_M_copyShape_60 : gD m_M_copyShape 60 (.iconst 3) 1 61 := ⟨by decide +kernel, rfl⟩
theorem d_M_copyShape_61 : gD m_M_copyShape 61 (.iload_n 2) 1 62 := ⟨by decide +kernel, rfl⟩
theorem d_M_copyShape_62 : gD m_M_copyShape 62 .imul 1 63 := ⟨by decide +kernel, rfl⟩
theorem d_M_copyShape_63 : gD m_M_copyShape 63 (.iload_n 3) 1 64 := ⟨by decide +kernel, rfl⟩
theorem d_M_copyShape_64 : gD m_M_copyShape 64 .iadd 1 65 := ⟨by decide +kernel, rfl⟩
theorem d_M_copyShape_65 : gD m_M_copyShape 65 .iaload 1 66 := ⟨by decide +kernel, rfl⟩
theorem d_M_copyShape_66 : gD m_M_copyShape 66 .iastore 1 67 := ⟨by decide +kernel, rfl⟩
theorem d_M_copyShape_67 : gD m_M_copyShape 67 (.iinc 3 1) 3 70 := ⟨by decide +kernel, rfl⟩
theorem d_M_copyShape_70 : gD m_M_copyShape 70 (.goto (-68)) 3 73 := ⟨by decide +kernel, rfl⟩
theorem d_M_copyShape_73 : gD m_M_copyShape 73 .return_ 1 74 := ⟨by decide +kernel, rfl⟩
theorem d_M_answer_0 : gD m_M_answer 0 (.aload_n 0) 1 1 := ⟨by decide +kernel, rfl⟩
theorem d_M_answer_1 : gD m_M_answer 1 (.iload_n 1) 1 2 := ⟨by decide +kernel, rfl⟩
theorem d_M_answer_2 : gD m_M_answer 2 (.ifCond .lt 11) 3 5 := ⟨by decide +kernel, rfl⟩
theorem d_M_answer_5 : gD m_M_answer 5 (.iload_n 1) 1 6 := ⟨by decide +kernel, rfl⟩
theorem d_M_answer_6 : gD m_M_answer 6 (.aload_n 0) 1 7 := ⟨by decide +kernel, rfl⟩
theorem d_M_answer_7 : gD m_M_answer 7 (.getfield 208) 3 10 := ⟨by decide +kernel, rfl⟩
theorem d_M_answer_10 : gD m_M_answer 10 (.if_icmp .lt 7) 3 13 := ⟨by decide +kernel, rfl⟩
theorem d_M_answer_13 : gD m_M_answer 13 (.iconst 1) 1 14 := ⟨by decide +kernel, rfl⟩
theorem d_M_answer_14 : gD m_M_answer 14 (.goto 4) 3 17 := ⟨by decide +kernel, rfl⟩
theorem d_M_answer_17 : gD m_M_answer 17 (.iconst 0) 1 18 := ⟨by decide +kernel, rfl⟩
theorem d_M_answer_18 : gD m_M_answer 18 (.putfield 72) 3 21 := ⟨by decide +kernel, rfl⟩
theorem d_M_answer_21 : gD m_M_answer 21 (.aload_n 0) 1 22 := ⟨by decide +kernel, rfl⟩
theorem d_M_answer_22 : gD m_M_answer 22 (.getfield 72) 3 25 := ⟨by decide +kernel, rfl⟩
theorem d_M_answer_25 : gD m_M_answer 25 (.ifCond .le 7) 3 28 := ⟨by decide +kernel, rfl⟩
theorem d_M_answer_28 : gD m_M_answer 28 (.iconst 0) 1 29 := ⟨by decide +kernel, rfl⟩
theorem d_M_answer_29 : gD m_M_answer 29 (.goto 9) 3 32 := ⟨by decide +kernel, rfl⟩
theorem d_M_answer_32 : gD m_M_answer 32 (.aload_n 0) 1 33 := ⟨by decide +kernel, rfl⟩
theorem d_M_answer_33 : gD m_M_answer 33 (.getfield 57) 3 36 := ⟨by decide +kernel, rfl⟩
theorem d_M_answer_36 : gD m_M_answer 36 (.iload_n 1) 1 37 := ⟨by decide +kernel, rfl⟩
theorem d_M_answer_37 : gD m_M_answer 37 .iaload 1 38 := ⟨by decide +kernel, rfl⟩
theorem d_M_answer_38 : gD m_M_answer 38 .ireturn 1 39 := ⟨by decide +kernel, rfl⟩
theorem d_M_last_0 : gD m_M_last 0 (.aload_n 0) 1 1 := ⟨by decide +kernel, rfl⟩
theorem d_M_last_1 : gD m_M_last 1 (.iload_n 1) 1 2 := ⟨by decide +kernel, rfl⟩
theorem d_M_last_2 : gD m_M_last 2 (.ifCond .lt 8) 3 5 := ⟨by decide +kernel, rfl⟩
theorem d_M_last_5 : gD m_M_last 5 (.iload_n 1) 1 6 := ⟨by decide +kernel, rfl⟩
theorem d_M_last_6 : gD m_M_last 6 (.iconst 3) 1 7 := ⟨by decide +kernel, rfl⟩
theorem d_M_last_7 : gD m_M_last 7 (.if_icmp .le 7) 3 10 := ⟨by decide +kernel, rfl⟩
theorem d_M_last_10 : gD m_M_last 10 (.iconst 1) 1 11 := ⟨by decide +kernel, rfl⟩
theorem d_M_last_11 : gD m_M_last 11 (.goto 4) 3 14 := ⟨by decide +kernel, rfl⟩
theorem d_M_last_14 : gD m_M_last 14 (.iconst 0) 1 15 := ⟨by decide +kernel, rfl⟩
theorem d_M_last_15 : gD m_M_last 15 (.putfield 72) 3 18 := ⟨by decide +kernel, rfl⟩
theorem d_M_last_18 : gD m_M_last 18 (.aload_n 0) 1 19 := ⟨by decide +kernel, rfl⟩
theorem d_M_last_19 : gD m_M_last 19 (.getfield 72) 3 22 := ⟨by decide +kernel, rfl⟩
theorem d_M_last_22 : gD m_M_last 22 (.ifCond .le 5) 3 25 := ⟨by decide +kernel, rfl⟩
theorem d_M_last_25 : gD m_M_last 25 (.iconst 0) 1 26 := ⟨by decide +kernel, rfl⟩
theorem d_M_last_26 : gD m_M_last 26 .ireturn 1 27 := ⟨by decide +kernel, rfl⟩
theorem d_M_last_27 : gD m_M_last 27 (.iload_n 1) 1 28 := ⟨by decide +kernel, rfl⟩
theorem d_M_last_28 : gD m_M_last 28 (.ifCond .ne 10) 3 31 := ⟨by decide +kernel, rfl⟩
theorem d_M_last_31 : gD m_M_last 31 (.aload_n 0) 1 32 := ⟨by decide +kernel, rfl⟩
theorem d_M_last_32 : gD m_M_last 32 (.getfield 60) 3 35 := ⟨by decide +kernel, rfl⟩
theorem d_M_last_35 : gD m_M_last 35 (.goto 31) 3 38 := ⟨by decide +kernel, rfl⟩
theorem d_M_last_38 : gD m_M_last 38 (.iload_n 1) 1 39 := ⟨by decide +kernel, rfl⟩
theorem d_M_last_39 : gD m_M_last 39 (.iconst 1) 1 40 := ⟨by decide +kernel, rfl⟩
theorem d_M_last_40 : gD m_M_last 40 (.if_icmp .ne 10) 3 43 := ⟨by decide +kernel, rfl⟩
theorem d_M_last_43 : gD m_M_last 43 (.aload_n 0) 1 44 := ⟨by decide +kernel, rfl⟩
theorem d_M_last_44 : gD m_M_last 44 (.getfield 202) 3 47 := ⟨by decide +kernel, rfl⟩
theorem d_M_last_47 : gD m_M_last 47 (.goto 19) 3 50 := ⟨by decide +kernel, rfl⟩
theorem d_M_last_50 : gD m_M_last 50 (.iload_n 1) 1 51 := ⟨by decide +kernel, rfl⟩
theorem d_M_last_51 : gD m_M_last 51 (.iconst 2) 1 52 := ⟨by decide +kernel, rfl⟩
theorem d_M_last_52 : gD m_M_last 52 (.if_icmp .ne 10) 3 55 := ⟨by decide +kernel, rfl⟩
theorem d_M_last_55 : gD m_M_last 55 (.aload_n 0) 1 56 := ⟨by decide +kernel, rfl⟩
theorem d_M_last_56 : gD m_M_last 56 (.getfield 171) 3 59 := ⟨by decide +kernel, rfl⟩
theorem d_M_last_59 : gD m_M_last 59 (.goto 7) 3 62 := ⟨by decide +kernel, rfl⟩
theorem d_M_last_62 : gD m_M_last 62 (.aload_n 0) 1 63 := ⟨by decide +kernel, rfl⟩
theorem d_M_last_63 : gD m_M_last 63 (.getfield 174) 3 66 := ⟨by decide +kernel, rfl⟩
theorem d_M_last_66 : gD m_M_last 66 .ireturn 1 67 := ⟨by decide +kernel, rfl⟩
theorem d_M_shapes_0 : gD m_M_shapes 0 (.aload_n 0) 1 1 := ⟨by decide +kernel, rfl⟩
theorem d_M_shapes_1 : gD m_M_shapes 1 (.iconst 0) 1 2 := ⟨by decide +kernel, rfl⟩
theorem d_M_shapes_2 : gD m_M_shapes 2 (.putfield 72) 3 5 := ⟨by decide +kernel, rfl⟩
theorem d_M_shapes_5 : gD m_M_shapes 5 (.aload_n 0) 1 6 := ⟨by decide +kernel, rfl⟩
theorem d_M_shapes_6 : gD m_M_shapes 6 (.getfield 187) 3 9 := ⟨by decide +kernel, rfl⟩
theorem d_M_shapes_9 : gD m_M_shapes 9 .ireturn 1 10 := ⟨by decide +kernel, rfl⟩
theorem d_M_shape_0 : gD m_M_shape 0 (.aload_n 0) 1 1 := ⟨by decide +kernel, rfl⟩
theorem d_M_shape_1 : gD m_M_shape 1 (.iload_n 1) 1 2 := ⟨by decide +kernel, rfl⟩
theorem d_M_shape_2 : gD m_M_shape 2 (.ifCond .lt 20) 3 5 := ⟨by decide +kernel, rfl⟩
theorem d_M_shape_5 : gD m_M_shape 5 (.iload_n 1) 1 6 := ⟨by decide +kernel, rfl⟩
theorem d_M_shape_6 : gD m_M_shape 6 (.aload_n 0) 1 7 := ⟨by decide +kernel, rfl⟩
theorem d_M_shape_7 : gD m_M_shape 7 (.getfield 187) 3 10 := ⟨by decide +kernel, rfl⟩
theorem d_M_shape_10 : gD m_M_shape 10 (.if_icmp .ge 12) 3 13 := ⟨by decide +kernel, rfl⟩
theorem d_M_shape_13 : gD m_M_shape 13 (.iload_n 2) 1 14 := ⟨by decide +kernel, rfl⟩
theorem d_M_shape_14 : gD m_M_shape 14 (.ifCond .lt 8) 3 17 := ⟨by decide +kernel, rfl⟩
theorem d_M_shape_17 : gD m_M_shape 17 (.iload_n 2) 1 18 := ⟨by decide +kernel, rfl⟩
theorem d_M_shape_18 : gD m_M_shape 18 (.iconst 2) 1 19 := ⟨by decide +kernel, rfl⟩
theorem d_M_shape_19 : gD m_M_shape 19 (.if_icmp .le 7) 3 22 := ⟨by decide +kernel, rfl⟩
theorem d_M_shape_22 : gD m_M_shape 22 (.iconst 1) 1 23 := ⟨by decide +kernel, rfl⟩
theorem d_M_shape_23 : gD m_M_shape 23 (.goto 4) 3 26 := ⟨by decide +kernel, rfl⟩
theorem d_M_shape_26 : gD m_M_shape 26 (.iconst 0) 1 27 := ⟨by decide +kernel, rfl⟩
theorem d_M_shape_27 : gD m_M_shape 27 (.putfield 72) 3 30 := ⟨by decide +kernel, rfl⟩
theorem d_M_shape_30 : gD m_M_shape 30 (.aload_n 0) 1 31 := ⟨by decide +kernel, rfl⟩
theorem d_M_shape_31 : gD m_M_shape 31 (.getfield 72) 3 34 := ⟨by decide +kernel, rfl⟩
theorem d_M_shape_34 : gD m_M_shape 34 (.ifCond .le 5) 3 37 := ⟨by decide +kernel, rfl⟩
theorem d_M_shape_37 : gD m_M_shape 37 (.iconst 0) 1 38 := ⟨by decide +kernel, rfl⟩
theorem d_M_shape_38 : gD m_M_shape 38 .ireturn 1 39 := ⟨by decide +kernel, rfl⟩
theorem d_M_shape_39 : gD m_M_shape 39 (.iload_n 1) 1 40 := ⟨by decide +kernel, rfl⟩
end
section
/-! decode rows (wip/emit.py) -/
theorem d_M_shape_40 : gD m_M_shape 40 (.iconst 1) 1 41 := ⟨by decide +kernel, rfl⟩
theorem d_M_shape_41 : gD m_M_shape 41 .iadd 1 42 := ⟨by decide +kernel, rfl⟩
theorem d_M_shape_42 : gD m_M_shape 42 (.istore_n 3) 1 43 := ⟨by decide +kernel, rfl⟩
theorem d_M_shape_43 : gD m_M_shape 43 (.iload_n 2) 1 44 := ⟨by decide +kernel, rfl⟩
theorem d_M_shape_44 : gD m_M_shape 44 (.ifCond .ne 10) 3 47 := ⟨by decide +kernel, rfl⟩
theorem d_M_shape_47 : gD m_M_shape 47 (.aload_n 0) 1 48 := ⟨by decide +kernel, rfl⟩
theorem d_M_shape_48 : gD m_M_shape 48 (.getfield 45) 3 51 := ⟨by decide +kernel, rfl⟩
theorem d_M_shape_51 : gD m_M_shape 51 (.iload_n 1) 1 52 := ⟨by decide +kernel, rfl⟩
theorem d_M_shape_52 : gD m_M_shape 52 .iaload 1 53 := ⟨by decide +kernel, rfl⟩
theorem d_M_shape_53 : gD m_M_shape 53 .ireturn 1 54 := ⟨by decide +kernel, rfl⟩
theorem d_M_shape_54 : gD m_M_shape 54 (.iload_n 2) 1 55 := ⟨by decide +kernel, rfl⟩
theorem d_M_shape_55 : gD m_M_shape 55 (.iconst 1) 1 56 := ⟨by decide +kernel, rfl⟩
theorem d_M_shape_56 : gD m_M_shape 56 (.if_icmp .ne 41) 3 59 := ⟨by decide +kernel, rfl⟩
theorem d_M_shape_59 : gD m_M_shape 59 (.aload_n 0) 1 60 := ⟨by decide +kernel, rfl⟩
theorem d_M_shape_60 : gD m_M_shape 60 (.getfield 30) 3 63 := ⟨by decide +kernel, rfl⟩
theorem d_M_shape_63 : gD m_M_shape 63 (.iconst 3) 1 64 := ⟨by decide +kernel, rfl⟩
theorem d_M_shape_64 : gD m_M_shape 64 (.iload_n 3) 1 65 := ⟨by decide +kernel, rfl⟩
theorem d_M_shape_65 : gD m_M_shape 65 .imul 1 66 := ⟨by decide +kernel, rfl⟩
theorem d_M_shape_66 : gD m_M_shape 66 .iaload 1 67 := ⟨by decide +kernel, rfl⟩
theorem d_M_shape_67 : gD m_M_shape 67 (.iconst 3) 1 68 := ⟨by decide +kernel, rfl⟩
theorem d_M_shape_68 : gD m_M_shape 68 (.aload_n 0) 1 69 := ⟨by decide +kernel, rfl⟩
theorem d_M_shape_69 : gD m_M_shape 69 (.getfield 30) 3 72 := ⟨by decide +kernel, rfl⟩
theorem d_M_shape_72 : gD m_M_shape 72 (.iconst 3) 1 73 := ⟨by decide +kernel, rfl⟩
theorem d_M_shape_73 : gD m_M_shape 73 (.iload_n 3) 1 74 := ⟨by decide +kernel, rfl⟩
theorem d_M_shape_74 : gD m_M_shape 74 .imul 1 75 := ⟨by decide +kernel, rfl⟩
theorem d_M_shape_75 : gD m_M_shape 75 (.iconst 1) 1 76 := ⟨by decide +kernel, rfl⟩
theorem d_M_shape_76 : gD m_M_shape 76 .iadd 1 77 := ⟨by decide +kernel, rfl⟩
theorem d_M_shape_77 : gD m_M_shape 77 .iaload 1 78 := ⟨by decide +kernel, rfl⟩
theorem d_M_shape_78 : gD m_M_shape 78 .imul 1 79 := ⟨by decide +kernel, rfl⟩
theorem d_M_shape_79 : gD m_M_shape 79 .iadd 1 80 := ⟨by decide +kernel, rfl⟩
theorem d_M_shape_80 : gD m_M_shape 80 (.bipush 9) 2 82 := ⟨by decide +kernel, rfl⟩
theorem d_M_shape_82 : gD m_M_shape 82 (.aload_n 0) 1 83 := ⟨by decide +kernel, rfl⟩
theorem d_M_shape_83 : gD m_M_shape 83 (.getfield 30) 3 86 := ⟨by decide +kernel, rfl⟩
theorem d_M_shape_86 : gD m_M_shape 86 (.iconst 3) 1 87 := ⟨by decide +kernel, rfl⟩
theorem d_M_shape_87 : gD m_M_shape 87 (.iload_n 3) 1 88 := ⟨by decide +kernel, rfl⟩
theorem d_M_shape_88 : gD m_M_shape 88 .imul 1 89 := ⟨by decide +kernel, rfl⟩
theorem d_M_shape_89 : gD m_M_shape 89 (.iconst 2) 1 90 := ⟨by decide +kernel, rfl⟩
theorem d_M_shape_90 : gD m_M_shape 90 .iadd 1 91 := ⟨by decide +kernel, rfl⟩
theorem d_M_shape_91 : gD m_M_shape 91 .iaload 1 92 := ⟨by decide +kernel, rfl⟩
theorem d_M_shape_92 : gD m_M_shape 92 .imul 1 93 := ⟨by decide +kernel, rfl⟩
theorem d_M_shape_93 : gD m_M_shape 93 .iadd 1 94 := ⟨by decide +kernel, rfl⟩
theorem d_M_shape_94 : gD m_M_shape 94 (.goto 14) 3 97 := ⟨by decide +kernel, rfl⟩
theorem d_M_shape_97 : gD m_M_shape 97 (.aload_n 0) 1 98 := ⟨by decide +kernel, rfl⟩
theorem d_M_shape_98 : gD m_M_shape 98 (.iload_n 3) 1 99 := ⟨by decide +kernel, rfl⟩
theorem d_M_shape_99 : gD m_M_shape 99 (.aload_n 0) 1 100 := ⟨by decide +kernel, rfl⟩
theorem d_M_shape_100 : gD m_M_shape 100 (.iload_n 3) 1 101 := ⟨by decide +kernel, rfl⟩
theorem d_M_shape_101 : gD m_M_shape 101 (.iconst (-1)) 1 102 := ⟨by decide +kernel, rfl⟩
theorem d_M_shape_102 : gD m_M_shape 102 (.invokevirtual 196) 3 105 := ⟨by decide +kernel, rfl⟩
theorem d_M_shape_105 : gD m_M_shape 105 (.invokevirtual 199) 3 108 := ⟨by decide +kernel, rfl⟩
theorem d_M_shape_108 : gD m_M_shape 108 .ireturn 1 109 := ⟨by decide +kernel, rfl⟩
theorem d_M_changes_0 : gD m_M_changes 0 (.aload_n 0) 1 1 := ⟨by decide +kernel, rfl⟩
theorem d_M_changes_1 : gD m_M_changes 1 (.iconst 0) 1 2 := ⟨by decide +kernel, rfl⟩
theorem d_M_changes_2 : gD m_M_changes 2 (.putfield 72) 3 5 := ⟨by decide +kernel, rfl⟩
theorem d_M_changes_5 : gD m_M_changes 5 (.aload_n 0) 1 6 := ⟨by decide +kernel, rfl⟩
theorem d_M_changes_6 : gD m_M_changes 6 (.getfield 78) 3 9 := ⟨by decide +kernel, rfl⟩
theorem d_M_changes_9 : gD m_M_changes 9 .ireturn 1 10 := ⟨by decide +kernel, rfl⟩
theorem d_M_period_0 : gD m_M_period 0 (.aload_n 0) 1 1 := ⟨by decide +kernel, rfl⟩
theorem d_M_period_1 : gD m_M_period 1 (.iconst 0) 1 2 := ⟨by decide +kernel, rfl⟩
theorem d_M_period_2 : gD m_M_period 2 (.putfield 72) 3 5 := ⟨by decide +kernel, rfl⟩
theorem d_M_period_5 : gD m_M_period 5 (.aload_n 0) 1 6 := ⟨by decide +kernel, rfl⟩
theorem d_M_period_6 : gD m_M_period 6 (.iconst 3) 1 7 := ⟨by decide +kernel, rfl⟩
theorem d_M_period_7 : gD m_M_period 7 (.aload_n 0) 1 8 := ⟨by decide +kernel, rfl⟩
theorem d_M_period_8 : gD m_M_period 8 (.getfield 78) 3 11 := ⟨by decide +kernel, rfl⟩
theorem d_M_period_11 : gD m_M_period 11 .imul 1 12 := ⟨by decide +kernel, rfl⟩
theorem d_M_period_12 : gD m_M_period 12 (.iconst 4) 1 13 := ⟨by decide +kernel, rfl⟩
theorem d_M_period_13 : gD m_M_period 13 .idiv 1 14 := ⟨by decide +kernel, rfl⟩
theorem d_M_period_14 : gD m_M_period 14 (.putfield 78) 3 17 := ⟨by decide +kernel, rfl⟩
theorem d_M_period_17 : gD m_M_period 17 (.iconst 0) 1 18 := ⟨by decide +kernel, rfl⟩
theorem d_M_period_18 : gD m_M_period 18 (.istore_n 1) 1 19 := ⟨by decide +kernel, rfl⟩
theorem d_M_period_19 : gD m_M_period 19 (.iconst 0) 1 20 := ⟨by decide +kernel, rfl⟩
theorem d_M_period_20 : gD m_M_period 20 (.istore_n 2) 1 21 := ⟨by decide +kernel, rfl⟩
theorem d_M_period_21 : gD m_M_period 21 (.iload_n 2) 1 22 := ⟨by decide +kernel, rfl⟩
theorem d_M_period_22 : gD m_M_period 22 (.aload_n 0) 1 23 := ⟨by decide +kernel, rfl⟩
theorem d_M_period_23 : gD m_M_period 23 (.getfield 187) 3 26 := ⟨by decide +kernel, rfl⟩
theorem d_M_period_26 : gD m_M_period 26 (.if_icmp .ge 44) 3 29 := ⟨by decide +kernel, rfl⟩
theorem d_M_period_29 : gD m_M_period 29 (.iconst 3) 1 30 := ⟨by decide +kernel, rfl⟩
theorem d_M_period_30 : gD m_M_period 30 (.aload_n 0) 1 31 := ⟨by decide +kernel, rfl⟩
theorem d_M_period_31 : gD m_M_period 31 (.getfield 45) 3 34 := ⟨by decide +kernel, rfl⟩
theorem d_M_period_34 : gD m_M_period 34 (.iload_n 2) 1 35 := ⟨by decide +kernel, rfl⟩
theorem d_M_period_35 : gD m_M_period 35 .iaload 1 36 := ⟨by decide +kernel, rfl⟩
theorem d_M_period_36 : gD m_M_period 36 .imul 1 37 := ⟨by decide +kernel, rfl⟩
theorem d_M_period_37 : gD m_M_period 37 (.iconst 4) 1 38 := ⟨by decide +kernel, rfl⟩
theorem d_M_period_38 : gD m_M_period 38 .idiv 1 39 := ⟨by decide +kernel, rfl⟩
theorem d_M_period_39 : gD m_M_period 39 (.istore_n 3) 1 40 := ⟨by decide +kernel, rfl⟩
theorem d_M_period_40 : gD m_M_period 40 (.iload_n 3) 1 41 := ⟨by decide +kernel, rfl⟩
theorem d_M_period_41 : gD m_M_period 41 (.ifCond .le 23) 3 44 := ⟨by decide +kernel, rfl⟩
theorem d_M_period_44 : gD m_M_period 44 (.aload_n 0) 1 45 := ⟨by decide +kernel, rfl⟩
theorem d_M_period_45 : gD m_M_period 45 (.iload_n 1) 1 46 := ⟨by decide +kernel, rfl⟩
theorem d_M_period_46 : gD m_M_period 46 (.iconst 1) 1 47 := ⟨by decide +kernel, rfl⟩
theorem d_M_period_47 : gD m_M_period 47 .iadd 1 48 := ⟨by decide +kernel, rfl⟩
theorem d_M_period_48 : gD m_M_period 48 (.iload_n 2) 1 49 := ⟨by decide +kernel, rfl⟩
theorem d_M_period_49 : gD m_M_period 49 (.iconst 1) 1 50 := ⟨by decide +kernel, rfl⟩
theorem d_M_period_50 : gD m_M_period 50 .iadd 1 51 := ⟨by decide +kernel, rfl⟩
theorem d_M_period_51 : gD m_M_period 51 (.invokevirtual 193) 3 54 := ⟨by decide +kernel, rfl⟩
theorem d_M_period_54 : gD m_M_period 54 (.aload_n 0) 1 55 := ⟨by decide +kernel, rfl⟩
theorem d_M_period_55 : gD m_M_period 55 (.getfield 45) 3 58 := ⟨by decide +kernel, rfl⟩
theorem d_M_period_58 : gD m_M_period 58 (.iload_n 1) 1 59 := ⟨by decide +kernel, rfl⟩
theorem d_M_period_59 : gD m_M_period 59 (.iload_n 3) 1 60 := ⟨by decide +kernel, rfl⟩
theorem d_M_period_60 : gD m_M_period 60 .iastore 1 61 := ⟨by decide +kernel, rfl⟩
theorem d_M_period_61 : gD m_M_period 61 (.iinc 1 1) 3 64 := ⟨by decide +kernel, rfl⟩
theorem d_M_period_64 : gD m_M_period 64 (.iinc 2 1) 3 67 := ⟨by decide +kernel, rfl⟩
theorem d_M_period_67 : gD m_M_period 67 (.goto (-46)) 3 70 := ⟨by decide +kernel, rfl⟩
theorem d_M_period_70 : gD m_M_period 70 (.aload_n 0) 1 71 := ⟨by decide +kernel, rfl⟩
theorem d_M_period_71 : gD m_M_period 71 (.iload_n 1) 1 72 := ⟨by decide +kernel, rfl⟩
theorem d_M_period_72 : gD m_M_period 72 (.putfield 187) 3 75 := ⟨by decide +kernel, rfl⟩
theorem d_M_period_75 : gD m_M_period 75 (.aload_n 0) 1 76 := ⟨by decide +kernel, rfl⟩
theorem d_M_period_76 : gD m_M_period 76 (.getfield 187) 3 79 := ⟨by decide +kernel, rfl⟩
theorem d_M_period_79 : gD m_M_period 79 .ireturn 1 80 := ⟨by decide +kernel, rfl⟩
theorem d_M_budget_0 : gD m_M_budget 0 (.aload_n 0) 1 1 := ⟨by decide +kernel, rfl⟩
theorem d_M_budget_1 : gD m_M_budget 1 (.iload_n 1) 1 2 := ⟨by decide +kernel, rfl⟩
theorem d_M_budget_2 : gD m_M_budget 2 (.ifCond .lt 10) 3 5 := ⟨by decide +kernel, rfl⟩
theorem d_M_budget_5 : gD m_M_budget 5 (.iload_n 1) 1 6 := ⟨by decide +kernel, rfl⟩
theorem d_M_budget_6 : gD m_M_budget 6 (.sipush 200) 3 9 := ⟨by decide +kernel, rfl⟩
theorem d_M_budget_9 : gD m_M_budget 9 (.if_icmp .le 7) 3 12 := ⟨by decide +kernel, rfl⟩
theorem d_M_budget_12 : gD m_M_budget 12 (.iconst 1) 1 13 := ⟨by decide +kernel, rfl⟩
theorem d_M_budget_13 : gD m_M_budget 13 (.goto 4) 3 16 := ⟨by decide +kernel, rfl⟩
theorem d_M_budget_16 : gD m_M_budget 16 (.iconst 0) 1 17 := ⟨by decide +kernel, rfl⟩
theorem d_M_budget_17 : gD m_M_budget 17 (.putfield 72) 3 20 := ⟨by decide +kernel, rfl⟩
theorem d_M_budget_20 : gD m_M_budget 20 (.aload_n 0) 1 21 := ⟨by decide +kernel, rfl⟩
theorem d_M_budget_21 : gD m_M_budget 21 (.aload_n 0) 1 22 := ⟨by decide +kernel, rfl⟩
theorem d_M_budget_22 : gD m_M_budget 22 (.getfield 72) 3 25 := ⟨by decide +kernel, rfl⟩
theorem d_M_budget_25 : gD m_M_budget 25 (.ifCond .le 10) 3 28 := ⟨by decide +kernel, rfl⟩
theorem d_M_budget_28 : gD m_M_budget 28 (.aload_n 0) 1 29 := ⟨by decide +kernel, rfl⟩
theorem d_M_budget_29 : gD m_M_budget 29 (.getfield 48) 3 32 := ⟨by decide +kernel, rfl⟩
theorem d_M_budget_32 : gD m_M_budget 32 (.goto 4) 3 35 := ⟨by decide +kernel, rfl⟩
theorem d_M_budget_35 : gD m_M_budget 35 (.iload_n 1) 1 36 := ⟨by decide +kernel, rfl⟩
theorem d_M_budget_36 : gD m_M_budget 36 (.putfield 48) 3 39 := ⟨by decide +kernel, rfl⟩
theorem d_M_budget_39 : gD m_M_budget 39 .return_ 1 40 := ⟨by decide +kernel, rfl⟩
theorem d_M_choose_0 : gD m_M_choose 0 (.aload_n 0) 1 1 := ⟨by decide +kernel, rfl⟩
theorem d_M_choose_1 : gD m_M_choose 1 (.iconst 0) 1 2 := ⟨by decide +kernel, rfl⟩
theorem d_M_choose_2 : gD m_M_choose 2 (.putfield 72) 3 5 := ⟨by decide +kernel, rfl⟩
theorem d_M_choose_5 : gD m_M_choose 5 (.aload_n 0) 1 6 := ⟨by decide +kernel, rfl⟩
theorem d_M_choose_6 : gD m_M_choose 6 (.invokevirtual 217) 3 9 := ⟨by decide +kernel, rfl⟩
theorem d_M_choose_9 : gD m_M_choose 9 (.iconst 0) 1 10 := ⟨by decide +kernel, rfl⟩
theorem d_M_choose_10 : gD m_M_choose 10 (.istore_n 1) 1 11 := ⟨by decide +kernel, rfl⟩
theorem d_M_choose_11 : gD m_M_choose 11 (.aload_n 0) 1 12 := ⟨by decide +kernel, rfl⟩
theorem d_M_choose_12 : gD m_M_choose 12 (.iconst 0) 1 13 := ⟨by decide +kernel, rfl⟩
theorem d_M_choose_13 : gD m_M_choose 13 (.invokevirtual 220) 3 16 := ⟨by decide +kernel, rfl⟩
theorem d_M_choose_16 : gD m_M_choose 16 (.lstore_n 2) 1 17 := ⟨by decide +kernel, rfl⟩
theorem d_M_choose_17 : gD m_M_choose 17 (.iconst 1) 1 18 := ⟨by decide +kernel, rfl⟩
theorem d_M_choose_18 : gD m_M_choose 18 (.istore 4) 2 20 := ⟨by decide +kernel, rfl⟩
theorem d_M_choose_20 : gD m_M_choose 20 (.iload 4) 2 22 := ⟨by decide +kernel, rfl⟩
theorem d_M_choose_22 : gD m_M_choose 22 (.sipush 512) 3 25 := ⟨by decide +kernel, rfl⟩
theorem d_M_choose_25 : gD m_M_choose 25 (.if_icmp .ge 91) 3 28 := ⟨by decide +kernel, rfl⟩
theorem d_M_choose_28 : gD m_M_choose 28 (.iload 4) 2 30 := ⟨by decide +kernel, rfl⟩
theorem d_M_choose_30 : gD m_M_choose 30 (.invokestatic 214) 3 33 := ⟨by decide +kernel, rfl⟩
theorem d_M_choose_33 : gD m_M_choose 33 (.aload_n 0) 1 34 := ⟨by decide +kernel, rfl⟩
theorem d_M_choose_34 : gD m_M_choose 34 (.invokevirtual 129) 3 37 := ⟨by decide +kernel, rfl⟩
theorem d_M_choose_37 : gD m_M_choose 37 .imul 1 38 := ⟨by decide +kernel, rfl⟩
theorem d_M_choose_38 : gD m_M_choose 38 (.aload_n 0) 1 39 := ⟨by decide +kernel, rfl⟩
theorem d_M_choose_39 : gD m_M_choose 39 (.getfield 48) 3 42 := ⟨by decide +kernel, rfl⟩
theorem d_M_choose_42 : gD m_M_choose 42 (.if_icmp .gt 68) 3 45 := ⟨by decide +kernel, rfl⟩
theorem d_M_choose_45 : gD m_M_choose 45 (.aload_n 0) 1 46 := ⟨by decide +kernel, rfl⟩
theorem d_M_choose_46 : gD m_M_choose 46 (.iload 4) 2 48 := ⟨by decide +kernel, rfl⟩
theorem d_M_choose_48 : gD m_M_choose 48 (.invokevirtual 220) 3 51 := ⟨by decide +kernel, rfl⟩
theorem d_M_choose_51 : gD m_M_choose 51 (.lstore 5) 2 53 := ⟨by decide +kernel, rfl⟩
theorem d_M_choose_53 : gD m_M_choose 53 (.lload 5) 2 55 := ⟨by decide +kernel, rfl⟩
theorem d_M_choose_55 : gD m_M_choose 55 (.lload_n 2) 1 56 := ⟨by decide +kernel, rfl⟩
theorem d_M_choose_56 : gD m_M_choose 56 .lcmp 1 57 := ⟨by decide +kernel, rfl⟩
theorem d_M_choose_57 : gD m_M_choose 57 (.ifCond .lt 22) 3 60 := ⟨by decide +kernel, rfl⟩
theorem d_M_choose_60 : gD m_M_choose 60 (.lload 5) 2 62 := ⟨by decide +kernel, rfl⟩
theorem d_M_choose_62 : gD m_M_choose 62 (.lload_n 2) 1 63 := ⟨by decide +kernel, rfl⟩
theorem d_M_choose_63 : gD m_M_choose 63 .lcmp 1 64 := ⟨by decide +kernel, rfl⟩
theorem d_M_choose_64 : gD m_M_choose 64 (.ifCond .ne 19) 3 67 := ⟨by decide +kernel, rfl⟩
theorem d_M_choose_67 : gD m_M_choose 67 (.iload 4) 2 69 := ⟨by decide +kernel, rfl⟩
theorem d_M_choose_69 : gD m_M_choose 69 (.invokestatic 214) 3 72 := ⟨by decide +kernel, rfl⟩
theorem d_M_choose_72 : gD m_M_choose 72 (.iload_n 1) 1 73 := ⟨by decide +kernel, rfl⟩
theorem d_M_choose_73 : gD m_M_choose 73 (.invokestatic 214) 3 76 := ⟨by decide +kernel, rfl⟩
theorem d_M_choose_76 : gD m_M_choose 76 (.if_icmp .ge 7) 3 79 := ⟨by decide +kernel, rfl⟩
theorem d_M_choose_79 : gD m_M_choose 79 (.iconst 1) 1 80 := ⟨by decide +kernel, rfl⟩
theorem d_M_choose_80 : gD m_M_choose 80 (.goto 4) 3 83 := ⟨by decide +kernel, rfl⟩
theorem d_M_choose_83 : gD m_M_choose 83 (.iconst 0) 1 84 := ⟨by decide +kernel, rfl⟩
theorem d_M_choose_84 : gD m_M_choose 84 (.istore 7) 2 86 := ⟨by decide +kernel, rfl⟩
theorem d_M_choose_86 : gD m_M_choose 86 (.iload 7) 2 88 := ⟨by decide +kernel, rfl⟩
theorem d_M_choose_88 : gD m_M_choose 88 (.ifCond .eq 8) 3 91 := ⟨by decide +kernel, rfl⟩
theorem d_M_choose_91 : gD m_M_choose 91 (.iload 4) 2 93 := ⟨by decide +kernel, rfl⟩
theorem d_M_choose_93 : gD m_M_choose 93 (.goto 4) 3 96 := ⟨by decide +kernel, rfl⟩
theorem d_M_choose_96 : gD m_M_choose 96 (.iload_n 1) 1 97 := ⟨by decide +kernel, rfl⟩
theorem d_M_choose_97 : gD m_M_choose 97 (.istore_n 1) 1 98 := ⟨by decide +kernel, rfl⟩
theorem d_M_choose_98 : gD m_M_choose 98 (.iload 7) 2 100 := ⟨by decide +kernel, rfl⟩
theorem d_M_choose_100 : gD m_M_choose 100 (.ifCond .eq 8) 3 103 := ⟨by decide +kernel, rfl⟩
theorem d_M_choose_103 : gD m_M_choose 103 (.lload 5) 2 105 := ⟨by decide +kernel, rfl⟩
theorem d_M_choose_105 : gD m_M_choose 105 (.goto 4) 3 108 := ⟨by decide +kernel, rfl⟩
theorem d_M_choose_108 : gD m_M_choose 108 (.lload_n 2) 1 109 := ⟨by decide +kernel, rfl⟩
theorem d_M_choose_109 : gD m_M_choose 109 (.lstore_n 2) 1 110 := ⟨by decide +kernel, rfl⟩
theorem d_M_choose_110 : gD m_M_choose 110 (.iinc 4 1) 3 113 := ⟨by decide +kernel, rfl⟩
theorem d_M_choose_113 : gD m_M_choose 113 (.goto (-93)) 3 116 := ⟨by decide +kernel, rfl⟩
theorem d_M_choose_116 : gD m_M_choose 116 (.iload_n 1) 1 117 := ⟨by decide +kernel, rfl⟩
theorem d_M_choose_117 : gD m_M_choose 117 .ireturn 1 118 := ⟨by decide +kernel, rfl⟩
theorem d_M_findCosts_0 : gD m_M_findCosts 0 (.aload_n 0) 1 1 := ⟨by decide +kernel, rfl⟩
theorem d_M_findCosts_1 : gD m_M_findCosts 1 (.getfield 66) 3 4 := ⟨by decide +kernel, rfl⟩
theorem d_M_findCosts_4 : gD m_M_findCosts 4 (.bipush 72) 2 6 := ⟨by decide +kernel, rfl⟩
theorem d_M_findCosts_6 : gD m_M_findCosts 6 (.aload_n 0) 1 7 := ⟨by decide +kernel, rfl⟩
theorem d_M_findCosts_7 : gD m_M_findCosts 7 (.invokevirtual 162) 3 10 := ⟨by decide +kernel, rfl⟩
theorem d_M_findCosts_10 : gD m_M_findCosts 10 .iastore 1 11 := ⟨by decide +kernel, rfl⟩
theorem d_M_findCosts_11 : gD m_M_findCosts 11 (.iconst 0) 1 12 := ⟨by decide +kernel, rfl⟩
theorem d_M_findCosts_12 : gD m_M_findCosts 12 (.istore_n 1) 1 13 := ⟨by decide +kernel, rfl⟩
theorem d_M_findCosts_13 : gD m_M_findCosts 13 (.iload_n 1) 1 14 := ⟨by decide +kernel, rfl⟩
theorem d_M_findCosts_14 : gD m_M_findCosts 14 (.aload_n 0) 1 15 := ⟨by decide +kernel, rfl⟩
theorem d_M_findCosts_15 : gD m_M_findCosts 15 (.getfield 187) 3 18 := ⟨by decide +kernel, rfl⟩
theorem d_M_findCosts_18 : gD m_M_findCosts 18 (.if_icmp .ge 59) 3 21 := ⟨by decide +kernel, rfl⟩
theorem d_M_findCosts_21 : gD m_M_findCosts 21 (.iconst 0) 1 22 := ⟨by decide +kernel, rfl⟩
theorem d_M_findCosts_22 : gD m_M_findCosts 22 (.istore_n 2) 1 23 := ⟨by decide +kernel, rfl⟩
theorem d_M_findCosts_23 : gD m_M_findCosts 23 (.iload_n 2) 1 24 := ⟨by decide +kernel, rfl⟩
theorem d_M_findCosts_24 : gD m_M_findCosts 24 (.bipush 9) 2 26 := ⟨by decide +kernel, rfl⟩
theorem d_M_findCosts_26 : gD m_M_findCosts 26 (.if_icmp .ge 45) 3 29 := ⟨by decide +kernel, rfl⟩
theorem d_M_findCosts_29 : gD m_M_findCosts 29 (.aload_n 0) 1 30 := ⟨by decide +kernel, rfl⟩
theorem d_M_findCosts_30 : gD m_M_findCosts 30 (.getfield 66) 3 33 := ⟨by decide +kernel, rfl⟩
theorem d_M_findCosts_33 : gD m_M_findCosts 33 (.bipush 9) 2 35 := ⟨by decide +kernel, rfl⟩
theorem d_M_findCosts_35 : gD m_M_findCosts 35 (.iload_n 1) 1 36 := ⟨by decide +kernel, rfl⟩
theorem d_M_findCosts_36 : gD m_M_findCosts 36 .imul 1 37 := ⟨by decide +kernel, rfl⟩
theorem d_M_findCosts_37 : gD m_M_findCosts 37 (.iload_n 2) 1 38 := ⟨by decide +kernel, rfl⟩
theorem d_M_findCosts_38 : gD m_M_findCosts 38 .iadd 1 39 := ⟨by decide +kernel, rfl⟩
theorem d_M_findCosts_39 : gD m_M_findCosts 39 (.aload_n 0) 1 40 := ⟨by decide +kernel, rfl⟩
theorem d_M_findCosts_40 : gD m_M_findCosts 40 (.iload_n 1) 1 41 := ⟨by decide +kernel, rfl⟩
theorem d_M_findCosts_41 : gD m_M_findCosts 41 (.iconst 1) 1 42 := ⟨by decide +kernel, rfl⟩
theorem d_M_findCosts_42 : gD m_M_findCosts 42 .iadd 1 43 := ⟨by decide +kernel, rfl⟩
theorem d_M_findCosts_43 : gD m_M_findCosts 43 (.iload_n 2) 1 44 := ⟨by decide +kernel, rfl⟩
theorem d_M_findCosts_44 : gD m_M_findCosts 44 (.invokevirtual 165) 3 47 := ⟨by decide +kernel, rfl⟩
theorem d_M_findCosts_47 : gD m_M_findCosts 47 (.ifCond .eq 14) 3 50 := ⟨by decide +kernel, rfl⟩
theorem d_M_findCosts_50 : gD m_M_findCosts 50 (.aload_n 0) 1 51 := ⟨by decide +kernel, rfl⟩
theorem d_M_findCosts_51 : gD m_M_findCosts 51 (.iload_n 1) 1 52 := ⟨by decide +kernel, rfl⟩
theorem d_M_findCosts_52 : gD m_M_findCosts 52 (.iconst 1) 1 53 := ⟨by decide +kernel, rfl⟩
theorem d_M_findCosts_53 : gD m_M_findCosts 53 .iadd 1 54 := ⟨by decide +kernel, rfl⟩
theorem d_M_findCosts_54 : gD m_M_findCosts 54 (.iload_n 2) 1 55 := ⟨by decide +kernel, rfl⟩
theorem d_M_findCosts_55 : gD m_M_findCosts 55 (.invokevirtual 168) 3 58 := ⟨by decide +kernel, rfl⟩
theorem d_M_findCosts_58 : gD m_M_findCosts 58 (.goto 6) 3 61 := ⟨by decide +kernel, rfl⟩
theorem d_M_findCosts_61 : gD m_M_findCosts 61 (.sipush 1000) 3 64 := ⟨by decide +kernel, rfl⟩
theorem d_M_findCosts_64 : gD m_M_findCosts 64 .iastore 1 65 := ⟨by decide +kernel, rfl⟩
theorem d_M_findCosts_65 : gD m_M_findCosts 65 (.iinc 2 1) 3 68 := ⟨by decide +kernel, rfl⟩
theorem d_M_findCosts_68 : gD m_M_findCosts 68 (.goto (-45)) 3 71 := ⟨by decide +kernel, rfl⟩
theorem d_M_findCosts_71 : gD m_M_findCosts 71 (.iinc 1 1) 3 74 := ⟨by decide +kernel, rfl⟩
theorem d_M_findCosts_74 : gD m_M_findCosts 74 (.goto (-61)) 3 77 := ⟨by decide +kernel, rfl⟩
theorem d_M_findCosts_77 : gD m_M_findCosts 77 .return_ 1 78 := ⟨by decide +kernel, rfl⟩
theorem d_M_sumOf_0 : gD m_M_sumOf 0 (.iload_n 1) 1 1 := ⟨by decide +kernel, rfl⟩
theorem d_M_sumOf_1 : gD m_M_sumOf 1 (.invokestatic 214) 3 4 := ⟨by decide +kernel, rfl⟩
theorem d_M_sumOf_4 : gD m_M_sumOf 4 .i2l 1 5 := ⟨by decide +kernel, rfl⟩
theorem d_M_sumOf_5 : gD m_M_sumOf 5 (.aload_n 0) 1 6 := ⟨by decide +kernel, rfl⟩
theorem d_M_sumOf_6 : gD m_M_sumOf 6 (.getfield 78) 3 9 := ⟨by decide +kernel, rfl⟩
theorem d_M_sumOf_9 : gD m_M_sumOf 9 .i2l 1 10 := ⟨by decide +kernel, rfl⟩
theorem d_M_sumOf_10 : gD m_M_sumOf 10 .lmul 1 11 := ⟨by decide +kernel, rfl⟩
theorem d_M_sumOf_11 : gD m_M_sumOf 11 (.aload_n 0) 1 12 := ⟨by decide +kernel, rfl⟩
theorem d_M_sumOf_12 : gD m_M_sumOf 12 (.invokevirtual 126) 3 15 := ⟨by decide +kernel, rfl⟩
theorem d_M_sumOf_15 : gD m_M_sumOf 15 (.iconst 1) 1 16 := ⟨by decide +kernel, rfl⟩
theorem d_M_sumOf_16 : gD m_M_sumOf 16 .iadd 1 17 := ⟨by decide +kernel, rfl⟩
theorem d_M_sumOf_17 : gD m_M_sumOf 17 .i2l 1 18 := ⟨by decide +kernel, rfl⟩
theorem d_M_sumOf_18 : gD m_M_sumOf 18 .lmul 1 19 := ⟨by decide +kernel, rfl⟩
theorem d_M_sumOf_19 : gD m_M_sumOf 19 (.lstore_n 2) 1 20 := ⟨by decide +kernel, rfl⟩
theorem d_M_sumOf_20 : gD m_M_sumOf 20 (.iconst 0) 1 21 := ⟨by decide +kernel, rfl⟩
theorem d_M_sumOf_21 : gD m_M_sumOf 21 (.istore 4) 2 23 := ⟨by decide +kernel, rfl⟩
theorem d_M_sumOf_23 : gD m_M_sumOf 23 (.iload 4) 2 25 := ⟨by decide +kernel, rfl⟩
theorem d_M_sumOf_25 : gD m_M_sumOf 25 (.aload_n 0) 1 26 := ⟨by decide +kernel, rfl⟩
theorem d_M_sumOf_26 : gD m_M_sumOf 26 (.getfield 187) 3 29 := ⟨by decide +kernel, rfl⟩
theorem d_M_sumOf_29 : gD m_M_sumOf 29 (.if_icmp .ge 97) 3 32 := ⟨by decide +kernel, rfl⟩
theorem d_M_sumOf_32 : gD m_M_sumOf 32 (.aload_n 0) 1 33 := ⟨by decide +kernel, rfl⟩
theorem d_M_sumOf_33 : gD m_M_sumOf 33 (.getfield 66) 3 36 := ⟨by decide +kernel, rfl⟩
theorem d_M_sumOf_36 : gD m_M_sumOf 36 (.bipush 72) 2 38 := ⟨by decide +kernel, rfl⟩
theorem d_M_sumOf_38 : gD m_M_sumOf 38 .iaload 1 39 := ⟨by decide +kernel, rfl⟩
theorem d_M_sumOf_39 : gD m_M_sumOf 39 (.istore 5) 2 41 := ⟨by decide +kernel, rfl⟩
theorem d_M_sumOf_41 : gD m_M_sumOf 41 (.iconst 0) 1 42 := ⟨by decide +kernel, rfl⟩
theorem d_M_sumOf_42 : gD m_M_sumOf 42 (.istore 6) 2 44 := ⟨by decide +kernel, rfl⟩
theorem d_M_sumOf_44 : gD m_M_sumOf 44 (.iload 6) 2 46 := ⟨by decide +kernel, rfl⟩
theorem d_M_sumOf_46 : gD m_M_sumOf 46 (.bipush 9) 2 48 := ⟨by decide +kernel, rfl⟩
theorem d_M_sumOf_48 : gD m_M_sumOf 48 (.if_icmp .ge 57) 3 51 := ⟨by decide +kernel, rfl⟩
theorem d_M_sumOf_51 : gD m_M_sumOf 51 (.iload_n 1) 1 52 := ⟨by decide +kernel, rfl⟩
theorem d_M_sumOf_52 : gD m_M_sumOf 52 (.iload 6) 2 54 := ⟨by decide +kernel, rfl⟩
theorem d_M_sumOf_54 : gD m_M_sumOf 54 .ishr 1 55 := ⟨by decide +kernel, rfl⟩
theorem d_M_sumOf_55 : gD m_M_sumOf 55 (.iconst 1) 1 56 := ⟨by decide +kernel, rfl⟩
theorem d_M_sumOf_56 : gD m_M_sumOf 56 .iand 1 57 := ⟨by decide +kernel, rfl⟩
theorem d_M_sumOf_57 : gD m_M_sumOf 57 (.iconst 1) 1 58 := ⟨by decide +kernel, rfl⟩
theorem d_M_sumOf_58 : gD m_M_sumOf 58 (.if_icmp .ne 37) 3 61 := ⟨by decide +kernel, rfl⟩
theorem d_M_sumOf_61 : gD m_M_sumOf 61 (.aload_n 0) 1 62 := ⟨by decide +kernel, rfl⟩
theorem d_M_sumOf_62 : gD m_M_sumOf 62 (.getfield 66) 3 65 := ⟨by decide +kernel, rfl⟩
theorem d_M_sumOf_65 : gD m_M_sumOf 65 (.bipush 9) 2 67 := ⟨by decide +kernel, rfl⟩
theorem d_M_sumOf_67 : gD m_M_sumOf 67 (.iload 4) 2 69 := ⟨by decide +kernel, rfl⟩
theorem d_M_sumOf_69 : gD m_M_sumOf 69 .imul 1 70 := ⟨by decide +kernel, rfl⟩
theorem d_M_sumOf_70 : gD m_M_sumOf 70 (.iload 6) 2 72 := ⟨by decide +kernel, rfl⟩
theorem d_M_sumOf_72 : gD m_M_sumOf 72 .iadd 1 73 := ⟨by decide +kernel, rfl⟩
theorem d_M_sumOf_73 : gD m_M_sumOf 73 .iaload 1 74 := ⟨by decide +kernel, rfl⟩
theorem d_M_sumOf_74 : gD m_M_sumOf 74 (.iload 5) 2 76 := ⟨by decide +kernel, rfl⟩
theorem d_M_sumOf_76 : gD m_M_sumOf 76 (.if_icmp .ge 19) 3 79 := ⟨by decide +kernel, rfl⟩
theorem d_M_sumOf_79 : gD m_M_sumOf 79 (.aload_n 0) 1 80 := ⟨by decide +kernel, rfl⟩
theorem d_M_sumOf_80 : gD m_M_sumOf 80 (.getfield 66) 3 83 := ⟨by decide +kernel, rfl⟩
theorem d_M_sumOf_83 : gD m_M_sumOf 83 (.bipush 9) 2 85 := ⟨by decide +kernel, rfl⟩
theorem d_M_sumOf_85 : gD m_M_sumOf 85 (.iload 4) 2 87 := ⟨by decide +kernel, rfl⟩
theorem d_M_sumOf_87 : gD m_M_sumOf 87 .imul 1 88 := ⟨by decide +kernel, rfl⟩
theorem d_M_sumOf_88 : gD m_M_sumOf 88 (.iload 6) 2 90 := ⟨by decide +kernel, rfl⟩
theorem d_M_sumOf_90 : gD m_M_sumOf 90 .iadd 1 91 := ⟨by decide +kernel, rfl⟩
theorem d_M_sumOf_91 : gD m_M_sumOf 91 .iaload 1 92 := ⟨by decide +kernel, rfl⟩
theorem d_M_sumOf_92 : gD m_M_sumOf 92 (.goto 5) 3 95 := ⟨by decide +kernel, rfl⟩
theorem d_M_sumOf_95 : gD m_M_sumOf 95 (.iload 5) 2 97 := ⟨by decide +kernel, rfl⟩
theorem d_M_sumOf_97 : gD m_M_sumOf 97 (.istore 5) 2 99 := ⟨by decide +kernel, rfl⟩
theorem d_M_sumOf_99 : gD m_M_sumOf 99 (.iinc 6 1) 3 102 := ⟨by decide +kernel, rfl⟩
theorem d_M_sumOf_102 : gD m_M_sumOf 102 (.goto (-58)) 3 105 := ⟨by decide +kernel, rfl⟩
theorem d_M_sumOf_105 : gD m_M_sumOf 105 (.lload_n 2) 1 106 := ⟨by decide +kernel, rfl⟩
theorem d_M_sumOf_106 : gD m_M_sumOf 106 (.aload_n 0) 1 107 := ⟨by decide +kernel, rfl⟩
theorem d_M_sumOf_107 : gD m_M_sumOf 107 (.getfield 45) 3 110 := ⟨by decide +kernel, rfl⟩
theorem d_M_sumOf_110 : gD m_M_sumOf 110 (.iload 4) 2 112 := ⟨by decide +kernel, rfl⟩
theorem d_M_sumOf_112 : gD m_M_sumOf 112 .iaload 1 113 := ⟨by decide +kernel, rfl⟩
theorem d_M_sumOf_113 : gD m_M_sumOf 113 .i2l 1 114 := ⟨by decide +kernel, rfl⟩
theorem d_M_sumOf_114 : gD m_M_sumOf 114 (.iload 5) 2 116 := ⟨by decide +kernel, rfl⟩
theorem d_M_sumOf_116 : gD m_M_sumOf 116 .i2l 1 117 := ⟨by decide +kernel, rfl⟩
theorem d_M_sumOf_117 : gD m_M_sumOf 117 .lmul 1 118 := ⟨by decide +kernel, rfl⟩
theorem d_M_sumOf_118 : gD m_M_sumOf 118 .ladd 1 119 := ⟨by decide +kernel, rfl⟩
theorem d_M_sumOf_119 : gD m_M_sumOf 119 (.lstore_n 2) 1 120 := ⟨by decide +kernel, rfl⟩
theorem d_M_sumOf_120 : gD m_M_sumOf 120 (.iinc 4 1) 3 123 := ⟨by decide +kernel, rfl⟩
theorem d_M_sumOf_123 : gD m_M_sumOf 123 (.goto (-100)) 3 126 := ⟨by decide +kernel, rfl⟩
theorem d_M_sumOf_126 : gD m_M_sumOf 126 (.lload_n 2) 1 127 := ⟨by decide +kernel, rfl⟩
theorem d_M_sumOf_127 : gD m_M_sumOf 127 .lreturn 1 128 := ⟨by decide +kernel, rfl⟩
theorem d_M_members_0 : gD m_M_members 0 (.iconst 0) 1 1 := ⟨by decide +kernel, rfl⟩
theorem d_M_members_1 : gD m_M_members 1 (.istore_n 1) 1 2 := ⟨by decide +kernel, rfl⟩
theorem d_M_members_2 : gD m_M_members 2 (.iconst 0) 1 3 := ⟨by decide +kernel, rfl⟩
theorem d_M_members_3 : gD m_M_members 3 (.istore_n 2) 1 4 := ⟨by decide +kernel, rfl⟩
theorem d_M_members_4 : gD m_M_members 4 (.iload_n 2) 1 5 := ⟨by decide +kernel, rfl⟩
theorem d_M_members_5 : gD m_M_members 5 (.bipush 9) 2 7 := ⟨by decide +kernel, rfl⟩
theorem d_M_members_7 : gD m_M_members 7 (.if_icmp .ge 17) 3 10 := ⟨by decide +kernel, rfl⟩
theorem d_M_members_10 : gD m_M_members 10 (.iload_n 1) 1 11 := ⟨by decide +kernel, rfl⟩
theorem d_M_members_11 : gD m_M_members 11 (.iload_n 0) 1 12 := ⟨by decide +kernel, rfl⟩
theorem d_M_members_12 : gD m_M_members 12 (.iload_n 2) 1 13 := ⟨by decide +kernel, rfl⟩
theorem d_M_members_13 : gD m_M_members 13 .ishr 1 14 := ⟨by decide +kernel, rfl⟩
theorem d_M_members_14 : gD m_M_members 14 (.iconst 1) 1 15 := ⟨by decide +kernel, rfl⟩
theorem d_M_members_15 : gD m_M_members 15 .iand 1 16 := ⟨by decide +kernel, rfl⟩
theorem d_M_members_16 : gD m_M_members 16 .iadd 1 17 := ⟨by decide +kernel, rfl⟩
theorem d_M_members_17 : gD m_M_members 17 (.istore_n 1) 1 18 := ⟨by decide +kernel, rfl⟩
theorem d_M_members_18 : gD m_M_members 18 (.iinc 2 1) 3 21 := ⟨by decide +kernel, rfl⟩
theorem d_M_members_21 : gD m_M_members 21 (.goto (-17)) 3 24 := ⟨by decide +kernel, rfl⟩
theorem d_M_members_24 : gD m_M_members 24 (.iload_n 1) 1 25 := ⟨by decide +kernel, rfl⟩
theorem d_M_members_25 : gD m_M_members 25 .ireturn 1 26 := ⟨by decide +kernel, rfl⟩
theorem d_M_costOf_0 : gD m_M_costOf 0 (.aload_n 0) 1 1 := ⟨by decide +kernel, rfl⟩
theorem d_M_costOf_1 : gD m_M_costOf 1 (.iload_n 1) 1 2 := ⟨by decide +kernel, rfl⟩
theorem d_M_costOf_2 : gD m_M_costOf 2 (.ifCond .lt 10) 3 5 := ⟨by decide +kernel, rfl⟩
theorem d_M_costOf_5 : gD m_M_costOf 5 (.iload_n 1) 1 6 := ⟨by decide +kernel, rfl⟩
theorem d_M_costOf_6 : gD m_M_costOf 6 (.sipush 511) 3 9 := ⟨by decide +kernel, rfl⟩
theorem d_M_costOf_9 : gD m_M_costOf 9 (.if_icmp .le 7) 3 12 := ⟨by decide +kernel, rfl⟩
theorem d_M_costOf_12 : gD m_M_costOf 12 (.iconst 1) 1 13 := ⟨by decide +kernel, rfl⟩
theorem d_M_costOf_13 : gD m_M_costOf 13 (.goto 4) 3 16 := ⟨by decide +kernel, rfl⟩
theorem d_M_costOf_16 : gD m_M_costOf 16 (.iconst 0) 1 17 := ⟨by decide +kernel, rfl⟩
theorem d_M_costOf_17 : gD m_M_costOf 17 (.putfield 72) 3 20 := ⟨by decide +kernel, rfl⟩
theorem d_M_costOf_20 : gD m_M_costOf 20 (.aload_n 0) 1 21 := ⟨by decide +kernel, rfl⟩
theorem d_M_costOf_21 : gD m_M_costOf 21 (.getfield 72) 3 24 := ⟨by decide +kernel, rfl⟩
theorem d_M_costOf_24 : gD m_M_costOf 24 (.ifCond .le 5) 3 27 := ⟨by decide +kernel, rfl⟩
theorem d_M_costOf_27 : gD m_M_costOf 27 (.lconst 0) 1 28 := ⟨by decide +kernel, rfl⟩
theorem d_M_costOf_28 : gD m_M_costOf 28 .lreturn 1 29 := ⟨by decide +kernel, rfl⟩
theorem d_M_costOf_29 : gD m_M_costOf 29 (.aload_n 0) 1 30 := ⟨by decide +kernel, rfl⟩
theorem d_M_costOf_30 : gD m_M_costOf 30 (.invokevirtual 217) 3 33 := ⟨by decide +kernel, rfl⟩
theorem d_M_costOf_33 : gD m_M_costOf 33 (.aload_n 0) 1 34 := ⟨by decide +kernel, rfl⟩
theorem d_M_costOf_34 : gD m_M_costOf 34 (.iload_n 1) 1 35 := ⟨by decide +kernel, rfl⟩
theorem d_M_costOf_35 : gD m_M_costOf 35 (.invokevirtual 220) 3 38 := ⟨by decide +kernel, rfl⟩
theorem d_M_costOf_38 : gD m_M_costOf 38 .lreturn 1 39 := ⟨by decide +kernel, rfl⟩
theorem d_M_build_0 : gD m_M_build 0 (.aload_n 0) 1 1 := ⟨by decide +kernel, rfl⟩
theorem d_M_build_1 : gD m_M_build 1 (.iload_n 1) 1 2 := ⟨by decide +kernel, rfl⟩
theorem d_M_build_2 : gD m_M_build 2 (.invokestatic 123) 3 5 := ⟨by decide +kernel, rfl⟩
theorem d_M_build_5 : gD m_M_build 5 (.ifCond .ne 7) 3 8 := ⟨by decide +kernel, rfl⟩
theorem d_M_build_8 : gD m_M_build 8 (.iconst 1) 1 9 := ⟨by decide +kernel, rfl⟩
theorem d_M_build_9 : gD m_M_build 9 (.goto 24) 3 12 := ⟨by decide +kernel, rfl⟩
theorem d_M_build_12 : gD m_M_build 12 (.aload_n 0) 1 13 := ⟨by decide +kernel, rfl⟩
theorem d_M_build_13 : gD m_M_build 13 (.getfield 23) 3 16 := ⟨by decide +kernel, rfl⟩
theorem d_M_build_16 : gD m_M_build 16 (.iload_n 1) 1 17 := ⟨by decide +kernel, rfl⟩
theorem d_M_build_17 : gD m_M_build 17 .iaload 1 18 := ⟨by decide +kernel, rfl⟩
theorem d_M_build_18 : gD m_M_build 18 (.ifCond .ne 10) 3 21 := ⟨by decide +kernel, rfl⟩
theorem d_M_build_21 : gD m_M_build 21 (.aload_n 0) 1 22 := ⟨by decide +kernel, rfl⟩
theorem d_M_build_22 : gD m_M_build 22 (.getfield 26) 3 25 := ⟨by decide +kernel, rfl⟩
theorem d_M_build_25 : gD m_M_build 25 (.ifCond .lt 7) 3 28 := ⟨by decide +kernel, rfl⟩
theorem d_M_build_28 : gD m_M_build 28 (.iconst 2) 1 29 := ⟨by decide +kernel, rfl⟩
theorem d_M_build_29 : gD m_M_build 29 (.goto 4) 3 32 := ⟨by decide +kernel, rfl⟩
theorem d_M_build_32 : gD m_M_build 32 (.iconst 0) 1 33 := ⟨by decide +kernel, rfl⟩
theorem d_M_build_33 : gD m_M_build 33 (.putfield 72) 3 36 := ⟨by decide +kernel, rfl⟩
theorem d_M_build_36 : gD m_M_build 36 (.aload_n 0) 1 37 := ⟨by decide +kernel, rfl⟩
theorem d_M_build_37 : gD m_M_build 37 (.getfield 72) 3 40 := ⟨by decide +kernel, rfl⟩
theorem d_M_build_40 : gD m_M_build 40 (.ifCond .le 4) 3 43 := ⟨by decide +kernel, rfl⟩
theorem d_M_build_43 : gD m_M_build 43 .return_ 1 44 := ⟨by decide +kernel, rfl⟩
theorem d_M_build_44 : gD m_M_build 44 (.aload_n 0) 1 45 := ⟨by decide +kernel, rfl⟩
theorem d_M_build_45 : gD m_M_build 45 (.iload_n 1) 1 46 := ⟨by decide +kernel, rfl⟩
theorem d_M_build_46 : gD m_M_build 46 (.putfield 26) 3 49 := ⟨by decide +kernel, rfl⟩
theorem d_M_build_49 : gD m_M_build 49 (.aload_n 0) 1 50 := ⟨by decide +kernel, rfl⟩
theorem d_M_build_50 : gD m_M_build 50 (.getfield 23) 3 53 := ⟨by decide +kernel, rfl⟩
theorem d_M_build_53 : gD m_M_build 53 (.iload_n 1) 1 54 := ⟨by decide +kernel, rfl⟩
theorem d_M_build_54 : gD m_M_build 54 (.iconst 1) 1 55 := ⟨by decide +kernel, rfl⟩
theorem d_M_build_55 : gD m_M_build 55 .iastore 1 56 := ⟨by decide +kernel, rfl⟩
theorem d_M_build_56 : gD m_M_build 56 (.aload_n 0) 1 57 := ⟨by decide +kernel, rfl⟩
theorem d_M_build_57 : gD m_M_build 57 (.iconst 0) 1 58 := ⟨by decide +kernel, rfl⟩
theorem d_M_build_58 : gD m_M_build 58 (.putfield 81) 3 61 := ⟨by decide +kernel, rfl⟩
theorem d_M_build_61 : gD m_M_build 61 (.aload_n 0) 1 62 := ⟨by decide +kernel, rfl⟩
theorem d_M_build_62 : gD m_M_build 62 (.iconst 0) 1 63 := ⟨by decide +kernel, rfl⟩
theorem d_M_build_63 : gD m_M_build 63 (.putfield 84) 3 66 := ⟨by decide +kernel, rfl⟩
theorem d_M_build_66 : gD m_M_build 66 (.aload_n 0) 1 67 := ⟨by decide +kernel, rfl⟩
theorem d_M_build_67 : gD m_M_build 67 (.invokevirtual 224) 3 70 := ⟨by decide +kernel, rfl⟩
theorem d_M_build_70 : gD m_M_build 70 .pop 1 71 := ⟨by decide +kernel, rfl⟩
theorem d_M_build_71 : gD m_M_build 71 .return_ 1 72 := ⟨by decide +kernel, rfl⟩
theorem d_M_settle_0 : gD m_M_settle 0 (.aload_n 0) 1 1 := ⟨by decide +kernel, rfl⟩
theorem d_M_settle_1 : gD m_M_settle 1 (.invokevirtual 227) 3 4 := ⟨by decide +kernel, rfl⟩
theorem d_M_settle_4 : gD m_M_settle 4 (.istore_n 1) 1 5 := ⟨by decide +kernel, rfl⟩
theorem d_M_settle_5 : gD m_M_settle 5 (.iload_n 1) 1 6 := ⟨by decide +kernel, rfl⟩
theorem d_M_settle_6 : gD m_M_settle 6 (.ifCond .ne 18) 3 9 := ⟨by decide +kernel, rfl⟩
theorem d_M_settle_9 : gD m_M_settle 9 (.aload_n 0) 1 10 := ⟨by decide +kernel, rfl⟩
theorem d_M_settle_10 : gD m_M_settle 10 (.getfield 23) 3 13 := ⟨by decide +kernel, rfl⟩
theorem d_M_settle_13 : gD m_M_settle 13 (.aload_n 0) 1 14 := ⟨by decide +kernel, rfl⟩
theorem d_M_settle_14 : gD m_M_settle 14 (.getfield 26) 3 17 := ⟨by decide +kernel, rfl⟩
theorem d_M_settle_17 : gD m_M_settle 17 (.iconst 2) 1 18 := ⟨by decide +kernel, rfl⟩
theorem d_M_settle_18 : gD m_M_settle 18 .iastore 1 19 := ⟨by decide +kernel, rfl⟩
theorem d_M_settle_19 : gD m_M_settle 19 (.aload_n 0) 1 20 := ⟨by decide +kernel, rfl⟩
theorem d_M_settle_20 : gD m_M_settle 20 (.iconst (-1)) 1 21 := ⟨by decide +kernel, rfl⟩
theorem d_M_settle_21 : gD m_M_settle 21 (.putfield 26) 3 24 := ⟨by decide +kernel, rfl⟩
theorem d_M_settle_24 : gD m_M_settle 24 (.iload_n 1) 1 25 := ⟨by decide +kernel, rfl⟩
theorem d_M_settle_25 : gD m_M_settle 25 .ireturn 1 26 := ⟨by decide +kernel, rfl⟩
theorem d_M_leftToDo_0 : gD m_M_leftToDo 0 (.aload_n 0) 1 1 := ⟨by decide +kernel, rfl⟩
theorem d_M_leftToDo_1 : gD m_M_leftToDo 1 (.getfield 75) 3 4 := ⟨by decide +kernel, rfl⟩
theorem d_M_leftToDo_4 : gD m_M_leftToDo 4 (.aload_n 0) 1 5 := ⟨by decide +kernel, rfl⟩
theorem d_M_leftToDo_5 : gD m_M_leftToDo 5 (.getfield 81) 3 8 := ⟨by decide +kernel, rfl⟩
theorem d_M_leftToDo_8 : gD m_M_leftToDo 8 .isub 1 9 := ⟨by decide +kernel, rfl⟩
theorem d_M_leftToDo_9 : gD m_M_leftToDo 9 (.aload_n 0) 1 10 := ⟨by decide +kernel, rfl⟩
theorem d_M_leftToDo_10 : gD m_M_leftToDo 10 (.getfield 84) 3 13 := ⟨by decide +kernel, rfl⟩
theorem d_M_leftToDo_13 : gD m_M_leftToDo 13 .iadd 1 14 := ⟨by decide +kernel, rfl⟩
theorem d_M_leftToDo_14 : gD m_M_leftToDo 14 .ireturn 1 15 := ⟨by decide +kernel, rfl⟩
theorem d_M_work_0 : gD m_M_work 0 (.aload_n 0) 1 1 := ⟨by decide +kernel, rfl⟩
theorem d_M_work_1 : gD m_M_work 1 (.iload_n 1) 1 2 := ⟨by decide +kernel, rfl⟩
theorem d_M_work_2 : gD m_M_work 2 (.iconst 1) 1 3 := ⟨by decide +kernel, rfl⟩
theorem d_M_work_3 : gD m_M_work 3 (.if_icmp .lt 9) 3 6 := ⟨by decide +kernel, rfl⟩
theorem d_M_work_6 : gD m_M_work 6 (.iload_n 1) 1 7 := ⟨by decide +kernel, rfl⟩
theorem d_M_work_7 : gD m_M_work 7 (.bipush 64) 2 9 := ⟨by decide +kernel, rfl⟩
theorem d_M_work_9 : gD m_M_work 9 (.if_icmp .le 7) 3 12 := ⟨by decide +kernel, rfl⟩
theorem d_M_work_12 : gD m_M_work 12 (.iconst 1) 1 13 := ⟨by decide +kernel, rfl⟩
theorem d_M_work_13 : gD m_M_work 13 (.goto 15) 3 16 := ⟨by decide +kernel, rfl⟩
theorem d_M_work_16 : gD m_M_work 16 (.aload_n 0) 1 17 := ⟨by decide +kernel, rfl⟩
theorem d_M_work_17 : gD m_M_work 17 (.getfield 26) 3 20 := ⟨by decide +kernel, rfl⟩
theorem d_M_work_20 : gD m_M_work 20 (.ifCond .ge 7) 3 23 := ⟨by decide +kernel, rfl⟩
theorem d_M_work_23 : gD m_M_work 23 (.iconst 2) 1 24 := ⟨by decide +kernel, rfl⟩
theorem d_M_work_24 : gD m_M_work 24 (.goto 4) 3 27 := ⟨by decide +kernel, rfl⟩
theorem d_M_work_27 : gD m_M_work 27 (.iconst 0) 1 28 := ⟨by decide +kernel, rfl⟩
theorem d_M_work_28 : gD m_M_work 28 (.putfield 72) 3 31 := ⟨by decide +kernel, rfl⟩
theorem d_M_work_31 : gD m_M_work 31 (.aload_n 0) 1 32 := ⟨by decide +kernel, rfl⟩
theorem d_M_work_32 : gD m_M_work 32 (.getfield 72) 3 35 := ⟨by decide +kernel, rfl⟩
theorem d_M_work_35 : gD m_M_work 35 (.ifCond .le 5) 3 38 := ⟨by decide +kernel, rfl⟩
theorem d_M_work_38 : gD m_M_work 38 (.iconst 0) 1 39 := ⟨by decide +kernel, rfl⟩
theorem d_M_work_39 : gD m_M_work 39 .ireturn 1 40 := ⟨by decide +kernel, rfl⟩
theorem d_M_work_40 : gD m_M_work 40 (.iconst 0) 1 41 := ⟨by decide +kernel, rfl⟩
theorem d_M_work_41 : gD m_M_work 41 (.istore_n 2) 1 42 := ⟨by decide +kernel, rfl⟩
theorem d_M_work_42 : gD m_M_work 42 (.iload_n 2) 1 43 := ⟨by decide +kernel, rfl⟩
theorem d_M_work_43 : gD m_M_work 43 (.iload_n 1) 1 44 := ⟨by decide +kernel, rfl⟩
theorem d_M_work_44 : gD m_M_work 44 (.if_icmp .ge 50) 3 47 := ⟨by decide +kernel, rfl⟩
theorem d_M_work_47 : gD m_M_work 47 (.aload_n 0) 1 48 := ⟨by decide +kernel, rfl⟩
theorem d_M_work_48 : gD m_M_work 48 (.invokevirtual 227) 3 51 := ⟨by decide +kernel, rfl⟩
theorem d_M_work_51 : gD m_M_work 51 (.ifCond .le 43) 3 54 := ⟨by decide +kernel, rfl⟩
theorem d_M_work_54 : gD m_M_work 54 (.aload_n 0) 1 55 := ⟨by decide +kernel, rfl⟩
theorem d_M_work_55 : gD m_M_work 55 (.getfield 81) 3 58 := ⟨by decide +kernel, rfl⟩
theorem d_M_work_58 : gD m_M_work 58 (.aload_n 0) 1 59 := ⟨by decide +kernel, rfl⟩
theorem d_M_work_59 : gD m_M_work 59 (.getfield 75) 3 62 := ⟨by decide +kernel, rfl⟩
theorem d_M_work_62 : gD m_M_work 62 (.if_icmp .ge 16) 3 65 := ⟨by decide +kernel, rfl⟩
theorem d_M_work_65 : gD m_M_work 65 (.aload_n 0) 1 66 := ⟨by decide +kernel, rfl⟩
theorem d_M_work_66 : gD m_M_work 66 .dup 1 67 := ⟨by decide +kernel, rfl⟩
theorem d_M_work_67 : gD m_M_work 67 (.getfield 81) 3 70 := ⟨by decide +kernel, rfl⟩
theorem d_M_work_70 : gD m_M_work 70 (.iconst 1) 1 71 := ⟨by decide +kernel, rfl⟩
theorem d_M_work_71 : gD m_M_work 71 .iadd 1 72 := ⟨by decide +kernel, rfl⟩
theorem d_M_work_72 : gD m_M_work 72 (.putfield 81) 3 75 := ⟨by decide +kernel, rfl⟩
theorem d_M_work_75 : gD m_M_work 75 (.goto 13) 3 78 := ⟨by decide +kernel, rfl⟩
theorem d_M_work_78 : gD m_M_work 78 (.aload_n 0) 1 79 := ⟨by decide +kernel, rfl⟩
theorem d_M_work_79 : gD m_M_work 79 .dup 1 80 := ⟨by decide +kernel, rfl⟩
theorem d_M_work_80 : gD m_M_work 80 (.getfield 84) 3 83 := ⟨by decide +kernel, rfl⟩
theorem d_M_work_83 : gD m_M_work 83 (.iconst 1) 1 84 := ⟨by decide +kernel, rfl⟩
theorem d_M_work_84 : gD m_M_work 84 .isub 1 85 := ⟨by decide +kernel, rfl⟩
theorem d_M_work_85 : gD m_M_work 85 (.putfield 84) 3 88 := ⟨by decide +kernel, rfl⟩
theorem d_M_work_88 : gD m_M_work 88 (.iinc 2 1) 3 91 := ⟨by decide +kernel, rfl⟩
theorem d_M_work_91 : gD m_M_work 91 (.goto (-49)) 3 94 := ⟨by decide +kernel, rfl⟩
theorem d_M_work_94 : gD m_M_work 94 (.aload_n 0) 1 95 := ⟨by decide +kernel, rfl⟩
theorem d_M_work_95 : gD m_M_work 95 (.invokevirtual 224) 3 98 := ⟨by decide +kernel, rfl⟩
theorem d_M_work_98 : gD m_M_work 98 .ireturn 1 99 := ⟨by decide +kernel, rfl⟩
theorem d_M_drop_0 : gD m_M_drop 0 (.aload_n 0) 1 1 := ⟨by decide +kernel, rfl⟩
theorem d_M_drop_1 : gD m_M_drop 1 (.iload_n 1) 1 2 := ⟨by decide +kernel, rfl⟩
theorem d_M_drop_2 : gD m_M_drop 2 (.invokestatic 123) 3 5 := ⟨by decide +kernel, rfl⟩
theorem d_M_drop_5 : gD m_M_drop 5 (.ifCond .eq 7) 3 8 := ⟨by decide +kernel, rfl⟩
theorem d_M_drop_8 : gD m_M_drop 8 (.iconst 0) 1 9 := ⟨by decide +kernel, rfl⟩
theorem d_M_drop_9 : gD m_M_drop 9 (.goto 4) 3 12 := ⟨by decide +kernel, rfl⟩
theorem d_M_drop_12 : gD m_M_drop 12 (.iconst 1) 1 13 := ⟨by decide +kernel, rfl⟩
theorem d_M_drop_13 : gD m_M_drop 13 (.putfield 72) 3 16 := ⟨by decide +kernel, rfl⟩
theorem d_M_drop_16 : gD m_M_drop 16 (.aload_n 0) 1 17 := ⟨by decide +kernel, rfl⟩
theorem d_M_drop_17 : gD m_M_drop 17 (.getfield 72) 3 20 := ⟨by decide +kernel, rfl⟩
theorem d_M_drop_20 : gD m_M_drop 20 (.ifCond .gt 12) 3 23 := ⟨by decide +kernel, rfl⟩
theorem d_M_drop_23 : gD m_M_drop 23 (.aload_n 0) 1 24 := ⟨by decide +kernel, rfl⟩
theorem d_M_drop_24 : gD m_M_drop 24 (.getfield 23) 3 27 := ⟨by decide +kernel, rfl⟩
theorem d_M_drop_27 : gD m_M_drop 27 (.iload_n 1) 1 28 := ⟨by decide +kernel, rfl⟩
theorem d_M_drop_28 : gD m_M_drop 28 .iaload 1 29 := ⟨by decide +kernel, rfl⟩
theorem d_M_drop_29 : gD m_M_drop 29 (.ifCond .ne 5) 3 32 := ⟨by decide +kernel, rfl⟩
theorem d_M_drop_32 : gD m_M_drop 32 (.iconst 0) 1 33 := ⟨by decide +kernel, rfl⟩
theorem d_M_drop_33 : gD m_M_drop 33 .ireturn 1 34 := ⟨by decide +kernel, rfl⟩
theorem d_M_drop_34 : gD m_M_drop 34 (.aload_n 0) 1 35 := ⟨by decide +kernel, rfl⟩
theorem d_M_drop_35 : gD m_M_drop 35 (.aload_n 0) 1 36 := ⟨by decide +kernel, rfl⟩
theorem d_M_drop_36 : gD m_M_drop 36 (.getfield 26) 3 39 := ⟨by decide +kernel, rfl⟩
theorem d_M_drop_39 : gD m_M_drop 39 (.iload_n 1) 1 40 := ⟨by decide +kernel, rfl⟩
theorem d_M_drop_40 : gD m_M_drop 40 (.if_icmp .ne 7) 3 43 := ⟨by decide +kernel, rfl⟩
theorem d_M_drop_43 : gD m_M_drop 43 (.iconst (-1)) 1 44 := ⟨by decide +kernel, rfl⟩
theorem d_M_drop_44 : gD m_M_drop 44 (.goto 7) 3 47 := ⟨by decide +kernel, rfl⟩
theorem d_M_drop_47 : gD m_M_drop 47 (.aload_n 0) 1 48 := ⟨by decide +kernel, rfl⟩
theorem d_M_drop_48 : gD m_M_drop 48 (.getfield 26) 3 51 := ⟨by decide +kernel, rfl⟩
theorem d_M_drop_51 : gD m_M_drop 51 (.putfield 26) 3 54 := ⟨by decide +kernel, rfl⟩
theorem d_M_drop_54 : gD m_M_drop 54 (.aload_n 0) 1 55 := ⟨by decide +kernel, rfl⟩
theorem d_M_drop_55 : gD m_M_drop 55 (.getfield 23) 3 58 := ⟨by decide +kernel, rfl⟩
theorem d_M_drop_58 : gD m_M_drop 58 (.iload_n 1) 1 59 := ⟨by decide +kernel, rfl⟩
theorem d_M_drop_59 : gD m_M_drop 59 (.iconst 0) 1 60 := ⟨by decide +kernel, rfl⟩
theorem d_M_drop_60 : gD m_M_drop 60 .iastore 1 61 := ⟨by decide +kernel, rfl⟩
theorem d_M_drop_61 : gD m_M_drop 61 (.iconst 1) 1 62 := ⟨by decide +kernel, rfl⟩
theorem d_M_drop_62 : gD m_M_drop 62 .ireturn 1 63 := ⟨by decide +kernel, rfl⟩
theorem d_L_law_0 : gD m_L_law 0 (.new 8) 3 3 := ⟨by decide +kernel, rfl⟩
theorem d_L_law_3 : gD m_L_law 3 .dup 1 4 := ⟨by decide +kernel, rfl⟩
theorem d_L_law_4 : gD m_L_law 4 (.aload_n 0) 1 5 := ⟨by decide +kernel, rfl⟩
theorem d_L_law_5 : gD m_L_law 5 (.iconst 0) 1 6 := ⟨by decide +kernel, rfl⟩
theorem d_L_law_6 : gD m_L_law 6 (.invokestatic 74) 3 9 := ⟨by decide +kernel, rfl⟩
theorem d_L_law_9 : gD m_L_law 9 (.invokespecial 80) 3 12 := ⟨by decide +kernel, rfl⟩
theorem d_L_law_12 : gD m_L_law 12 (.astore_n 1) 1 13 := ⟨by decide +kernel, rfl⟩
theorem d_L_law_13 : gD m_L_law 13 (.new 82) 3 16 := ⟨by decide +kernel, rfl⟩
theorem d_L_law_16 : gD m_L_law 16 .dup 1 17 := ⟨by decide +kernel, rfl⟩
theorem d_L_law_17 : gD m_L_law 17 (.aload_n 0) 1 18 := ⟨by decide +kernel, rfl⟩
theorem d_L_law_18 : gD m_L_law 18 (.iconst 0) 1 19 := ⟨by decide +kernel, rfl⟩
theorem d_L_law_19 : gD m_L_law 19 (.invokestatic 74) 3 22 := ⟨by decide +kernel, rfl⟩
theorem d_L_law_22 : gD m_L_law 22 (.invokespecial 84) 3 25 := ⟨by decide +kernel, rfl⟩
theorem d_L_law_25 : gD m_L_law 25 (.astore_n 2) 1 26 := ⟨by decide +kernel, rfl⟩
theorem d_L_law_26 : gD m_L_law 26 (.iconst 1) 1 27 := ⟨by decide +kernel, rfl⟩
theorem d_L_law_27 : gD m_L_law 27 (.newarray .long) 2 29 := ⟨by decide +kernel, rfl⟩
theorem d_L_law_29 : gD m_L_law 29 (.astore_n 3) 1 30 := ⟨by decide +kernel, rfl⟩
theorem d_L_law_30 : gD m_L_law 30 (.iconst 1) 1 31 := ⟨by decide +kernel, rfl⟩
theorem d_L_law_31 : gD m_L_law 31 (.istore 4) 2 33 := ⟨by decide +kernel, rfl⟩
theorem d_L_law_33 : gD m_L_law 33 (.iload 4) 2 35 := ⟨by decide +kernel, rfl⟩
theorem d_L_law_35 : gD m_L_law 35 (.aload_n 0) 1 36 := ⟨by decide +kernel, rfl⟩
theorem d_L_law_36 : gD m_L_law 36 .arraylength 1 37 := ⟨by decide +kernel, rfl⟩
theorem d_L_law_37 : gD m_L_law 37 (.iconst 5) 1 38 := ⟨by decide +kernel, rfl⟩
theorem d_L_law_38 : gD m_L_law 38 .isub 1 39 := ⟨by decide +kernel, rfl⟩
theorem d_L_law_39 : gD m_L_law 39 (.if_icmp .gt 1094) 3 42 := ⟨by decide +kernel, rfl⟩
theorem d_L_law_42 : gD m_L_law 42 (.aload_n 0) 1 43 := ⟨by decide +kernel, rfl⟩
theorem d_L_law_43 : gD m_L_law 43 (.iload 4) 2 45 := ⟨by decide +kernel, rfl⟩
theorem d_L_law_45 : gD m_L_law 45 .iaload 1 46 := ⟨by decide +kernel, rfl⟩
theorem d_L_law_46 : gD m_L_law 46 (.bipush 31) 2 48 := ⟨by decide +kernel, rfl⟩
theorem d_L_law_48 : gD m_L_law 48 .iand 1 49 := ⟨by decide +kernel, rfl⟩
theorem d_L_law_49 : gD m_L_law 49 (.tableswitch 1078 0 20 #[99, 179, 215, 275, 343, 415, 463, 476, 532, 588, 644, 712, 725, 793, 806, 819, 855, 868, 923, 959, 1015]) 99 148 := ⟨by decide +kernel, rfl⟩
theorem d_L_law_148 : gD m_L_law 148 (.aload_n 1) 1 149 := ⟨by decide +kernel, rfl⟩
theorem d_L_law_149 : gD m_L_law 149 (.aload_n 0) 1 150 := ⟨by decide +kernel, rfl⟩
theorem d_L_law_150 : gD m_L_law 150 (.iload 4) 2 152 := ⟨by decide +kernel, rfl⟩
theorem d_L_law_152 : gD m_L_law 152 (.iconst 1) 1 153 := ⟨by decide +kernel, rfl⟩
theorem d_L_law_153 : gD m_L_law 153 .iadd 1 154 := ⟨by decide +kernel, rfl⟩
theorem d_L_law_154 : gD m_L_law 154 .iaload 1 155 := ⟨by decide +kernel, rfl⟩
theorem d_L_law_155 : gD m_L_law 155 (.aload_n 0) 1 156 := ⟨by decide +kernel, rfl⟩
theorem d_L_law_156 : gD m_L_law 156 (.iload 4) 2 158 := ⟨by decide +kernel, rfl⟩
theorem d_L_law_158 : gD m_L_law 158 (.iconst 2) 1 159 := ⟨by decide +kernel, rfl⟩
theorem d_L_law_159 : gD m_L_law 159 .iadd 1 160 := ⟨by decide +kernel, rfl⟩
theorem d_L_law_160 : gD m_L_law 160 .iaload 1 161 := ⟨by decide +kernel, rfl⟩
theorem d_L_law_161 : gD m_L_law 161 (.aload_n 0) 1 162 := ⟨by decide +kernel, rfl⟩
theorem d_L_law_162 : gD m_L_law 162 (.iload 4) 2 164 := ⟨by decide +kernel, rfl⟩
theorem d_L_law_164 : gD m_L_law 164 (.iconst 3) 1 165 := ⟨by decide +kernel, rfl⟩
theorem d_L_law_165 : gD m_L_law 165 .iadd 1 166 := ⟨by decide +kernel, rfl⟩
theorem d_L_law_166 : gD m_L_law 166 .iaload 1 167 := ⟨by decide +kernel, rfl⟩
theorem d_L_law_167 : gD m_L_law 167 (.aload_n 3) 1 168 := ⟨by decide +kernel, rfl⟩
theorem d_L_law_168 : gD m_L_law 168 (.invokestatic 85) 3 171 := ⟨by decide +kernel, rfl⟩
theorem d_L_law_171 : gD m_L_law 171 (.istore 5) 2 173 := ⟨by decide +kernel, rfl⟩
theorem d_L_law_173 : gD m_L_law 173 (.aload_n 2) 1 174 := ⟨by decide +kernel, rfl⟩
theorem d_L_law_174 : gD m_L_law 174 (.aload_n 0) 1 175 := ⟨by decide +kernel, rfl⟩
theorem d_L_law_175 : gD m_L_law 175 (.iload 4) 2 177 := ⟨by decide +kernel, rfl⟩
theorem d_L_law_177 : gD m_L_law 177 (.iconst 1) 1 178 := ⟨by decide +kernel, rfl⟩
theorem d_L_law_178 : gD m_L_law 178 .iadd 1 179 := ⟨by decide +kernel, rfl⟩
theorem d_L_law_179 : gD m_L_law 179 .iaload 1 180 := ⟨by decide +kernel, rfl⟩
theorem d_L_law_180 : gD m_L_law 180 (.aload_n 0) 1 181 := ⟨by decide +kernel, rfl⟩
theorem d_L_law_181 : gD m_L_law 181 (.iload 4) 2 183 := ⟨by decide +kernel, rfl⟩
theorem d_L_law_183 : gD m_L_law 183 (.iconst 2) 1 184 := ⟨by decide +kernel, rfl⟩
theorem d_L_law_184 : gD m_L_law 184 .iadd 1 185 := ⟨by decide +kernel, rfl⟩
theorem d_L_law_185 : gD m_L_law 185 .iaload 1 186 := ⟨by decide +kernel, rfl⟩
theorem d_L_law_186 : gD m_L_law 186 (.aload_n 0) 1 187 := ⟨by decide +kernel, rfl⟩
theorem d_L_law_187 : gD m_L_law 187 (.iload 4) 2 189 := ⟨by decide +kernel, rfl⟩
theorem d_L_law_189 : gD m_L_law 189 (.iconst 3) 1 190 := ⟨by decide +kernel, rfl⟩
theorem d_L_law_190 : gD m_L_law 190 .iadd 1 191 := ⟨by decide +kernel, rfl⟩
theorem d_L_law_191 : gD m_L_law 191 .iaload 1 192 := ⟨by decide +kernel, rfl⟩
theorem d_L_law_192 : gD m_L_law 192 (.invokevirtual 88) 3 195 := ⟨by decide +kernel, rfl⟩
theorem d_L_law_195 : gD m_L_law 195 (.istore 6) 2 197 := ⟨by decide +kernel, rfl⟩
theorem d_L_law_197 : gD m_L_law 197 (.aload_n 2) 1 198 := ⟨by decide +kernel, rfl⟩
theorem d_L_law_198 : gD m_L_law 198 (.invokevirtual 89) 3 201 := ⟨by decide +kernel, rfl⟩
theorem d_L_law_201 : gD m_L_law 201 (.iload 5) 2 203 := ⟨by decide +kernel, rfl⟩
theorem d_L_law_203 : gD m_L_law 203 (.if_icmp .eq 5) 3 206 := ⟨by decide +kernel, rfl⟩
theorem d_L_law_206 : gD m_L_law 206 (.iconst 0) 1 207 := ⟨by decide +kernel, rfl⟩
theorem d_L_law_207 : gD m_L_law 207 .ireturn 1 208 := ⟨by decide +kernel, rfl⟩
theorem d_L_law_208 : gD m_L_law 208 (.iload 5) 2 210 := ⟨by decide +kernel, rfl⟩
theorem d_L_law_210 : gD m_L_law 210 (.ifCond .ne 15) 3 213 := ⟨by decide +kernel, rfl⟩
theorem d_L_law_213 : gD m_L_law 213 (.aload_n 3) 1 214 := ⟨by decide +kernel, rfl⟩
theorem d_L_law_214 : gD m_L_law 214 (.iconst 0) 1 215 := ⟨by decide +kernel, rfl⟩
theorem d_L_law_215 : gD m_L_law 215 .laload 1 216 := ⟨by decide +kernel, rfl⟩
theorem d_L_law_216 : gD m_L_law 216 (.iload 6) 2 218 := ⟨by decide +kernel, rfl⟩
theorem d_L_law_218 : gD m_L_law 218 .i2l 1 219 := ⟨by decide +kernel, rfl⟩
theorem d_L_law_219 : gD m_L_law 219 .lcmp 1 220 := ⟨by decide +kernel, rfl⟩
theorem d_L_law_220 : gD m_L_law 220 (.ifCond .eq 5) 3 223 := ⟨by decide +kernel, rfl⟩
theorem d_L_law_223 : gD m_L_law 223 (.iconst 0) 1 224 := ⟨by decide +kernel, rfl⟩
theorem d_L_law_224 : gD m_L_law 224 .ireturn 1 225 := ⟨by decide +kernel, rfl⟩
theorem d_L_law_225 : gD m_L_law 225 (.goto 902) 3 228 := ⟨by decide +kernel, rfl⟩
theorem d_L_law_228 : gD m_L_law 228 (.aload_n 1) 1 229 := ⟨by decide +kernel, rfl⟩
theorem d_L_law_229 : gD m_L_law 229 (.aload_n 0) 1 230 := ⟨by decide +kernel, rfl⟩
theorem d_L_law_230 : gD m_L_law 230 (.iload 4) 2 232 := ⟨by decide +kernel, rfl⟩
theorem d_L_law_232 : gD m_L_law 232 (.iconst 1) 1 233 := ⟨by decide +kernel, rfl⟩
theorem d_L_law_233 : gD m_L_law 233 .iadd 1 234 := ⟨by decide +kernel, rfl⟩
theorem d_L_law_234 : gD m_L_law 234 .iaload 1 235 := ⟨by decide +kernel, rfl⟩
theorem d_L_law_235 : gD m_L_law 235 (.invokestatic 93) 3 238 := ⟨by decide +kernel, rfl⟩
theorem d_L_law_238 : gD m_L_law 238 (.istore 5) 2 240 := ⟨by decide +kernel, rfl⟩
theorem d_L_law_240 : gD m_L_law 240 (.aload_n 2) 1 241 := ⟨by decide +kernel, rfl⟩
theorem d_L_law_241 : gD m_L_law 241 (.aload_n 0) 1 242 := ⟨by decide +kernel, rfl⟩
theorem d_L_law_242 : gD m_L_law 242 (.iload 4) 2 244 := ⟨by decide +kernel, rfl⟩
theorem d_L_law_244 : gD m_L_law 244 (.iconst 1) 1 245 := ⟨by decide +kernel, rfl⟩
theorem d_L_law_245 : gD m_L_law 245 .iadd 1 246 := ⟨by decide +kernel, rfl⟩
theorem d_L_law_246 : gD m_L_law 246 .iaload 1 247 := ⟨by decide +kernel, rfl⟩
theorem d_L_law_247 : gD m_L_law 247 (.invokevirtual 96) 3 250 := ⟨by decide +kernel, rfl⟩
theorem d_L_law_250 : gD m_L_law 250 (.aload_n 2) 1 251 := ⟨by decide +kernel, rfl⟩
theorem d_L_law_251 : gD m_L_law 251 (.invokevirtual 89) 3 254 := ⟨by decide +kernel, rfl⟩
theorem d_L_law_254 : gD m_L_law 254 (.iload 5) 2 256 := ⟨by decide +kernel, rfl⟩
theorem d_L_law_256 : gD m_L_law 256 (.if_icmp .eq 5) 3 259 := ⟨by decide +kernel, rfl⟩
theorem d_L_law_259 : gD m_L_law 259 (.iconst 0) 1 260 := ⟨by decide +kernel, rfl⟩
theorem d_L_law_260 : gD m_L_law 260 .ireturn 1 261 := ⟨by decide +kernel, rfl⟩
theorem d_L_law_261 : gD m_L_law 261 (.goto 866) 3 264 := ⟨by decide +kernel, rfl⟩
theorem d_L_law_264 : gD m_L_law 264 (.aload_n 1) 1 265 := ⟨by decide +kernel, rfl⟩
theorem d_L_law_265 : gD m_L_law 265 (.aload_n 0) 1 266 := ⟨by decide +kernel, rfl⟩
theorem d_L_law_266 : gD m_L_law 266 (.iload 4) 2 268 := ⟨by decide +kernel, rfl⟩
theorem d_L_law_268 : gD m_L_law 268 (.iconst 1) 1 269 := ⟨by decide +kernel, rfl⟩
theorem d_L_law_269 : gD m_L_law 269 .iadd 1 270 := ⟨by decide +kernel, rfl⟩
theorem d_L_law_270 : gD m_L_law 270 .iaload 1 271 := ⟨by decide +kernel, rfl⟩
theorem d_L_law_271 : gD m_L_law 271 (.aload_n 0) 1 272 := ⟨by decide +kernel, rfl⟩
theorem d_L_law_272 : gD m_L_law 272 (.iload 4) 2 274 := ⟨by decide +kernel, rfl⟩
theorem d_L_law_274 : gD m_L_law 274 (.iconst 2) 1 275 := ⟨by decide +kernel, rfl⟩
theorem d_L_law_275 : gD m_L_law 275 .iadd 1 276 := ⟨by decide +kernel, rfl⟩
theorem d_L_law_276 : gD m_L_law 276 .iaload 1 277 := ⟨by decide +kernel, rfl⟩
theorem d_L_law_277 : gD m_L_law 277 (.aload_n 0) 1 278 := ⟨by decide +kernel, rfl⟩
theorem d_L_law_278 : gD m_L_law 278 (.iload 4) 2 280 := ⟨by decide +kernel, rfl⟩
theorem d_L_law_280 : gD m_L_law 280 (.iconst 3) 1 281 := ⟨by decide +kernel, rfl⟩
theorem d_L_law_281 : gD m_L_law 281 .iadd 1 282 := ⟨by decide +kernel, rfl⟩
theorem d_L_law_282 : gD m_L_law 282 .iaload 1 283 := ⟨by decide +kernel, rfl⟩
theorem d_L_law_283 : gD m_L_law 283 (.invokestatic 97) 3 286 := ⟨by decide +kernel, rfl⟩
theorem d_L_law_286 : gD m_L_law 286 (.istore 5) 2 288 := ⟨by decide +kernel, rfl⟩
theorem d_L_law_288 : gD m_L_law 288 (.aload_n 2) 1 289 := ⟨by decide +kernel, rfl⟩
theorem d_L_law_289 : gD m_L_law 289 (.aload_n 0) 1 290 := ⟨by decide +kernel, rfl⟩
theorem d_L_law_290 : gD m_L_law 290 (.iload 4) 2 292 := ⟨by decide +kernel, rfl⟩
theorem d_L_law_292 : gD m_L_law 292 (.iconst 1) 1 293 := ⟨by decide +kernel, rfl⟩
theorem d_L_law_293 : gD m_L_law 293 .iadd 1 294 := ⟨by decide +kernel, rfl⟩
theorem d_L_law_294 : gD m_L_law 294 .iaload 1 295 := ⟨by decide +kernel, rfl⟩
theorem d_L_law_295 : gD m_L_law 295 (.aload_n 0) 1 296 := ⟨by decide +kernel, rfl⟩
theorem d_L_law_296 : gD m_L_law 296 (.iload 4) 2 298 := ⟨by decide +kernel, rfl⟩
theorem d_L_law_298 : gD m_L_law 298 (.iconst 2) 1 299 := ⟨by decide +kernel, rfl⟩
theorem d_L_law_299 : gD m_L_law 299 .iadd 1 300 := ⟨by decide +kernel, rfl⟩
theorem d_L_law_300 : gD m_L_law 300 .iaload 1 301 := ⟨by decide +kernel, rfl⟩
theorem d_L_law_301 : gD m_L_law 301 (.aload_n 0) 1 302 := ⟨by decide +kernel, rfl⟩
theorem d_L_law_302 : gD m_L_law 302 (.iload 4) 2 304 := ⟨by decide +kernel, rfl⟩
theorem d_L_law_304 : gD m_L_law 304 (.iconst 3) 1 305 := ⟨by decide +kernel, rfl⟩
theorem d_L_law_305 : gD m_L_law 305 .iadd 1 306 := ⟨by decide +kernel, rfl⟩
theorem d_L_law_306 : gD m_L_law 306 .iaload 1 307 := ⟨by decide +kernel, rfl⟩
theorem d_L_law_307 : gD m_L_law 307 (.invokevirtual 100) 3 310 := ⟨by decide +kernel, rfl⟩
theorem d_L_law_310 : gD m_L_law 310 (.aload_n 2) 1 311 := ⟨by decide +kernel, rfl⟩
theorem d_L_law_311 : gD m_L_law 311 (.invokevirtual 89) 3 314 := ⟨by decide +kernel, rfl⟩
theorem d_L_law_314 : gD m_L_law 314 (.iload 5) 2 316 := ⟨by decide +kernel, rfl⟩
theorem d_L_law_316 : gD m_L_law 316 (.if_icmp .eq 5) 3 319 := ⟨by decide +kernel, rfl⟩
theorem d_L_law_319 : gD m_L_law 319 (.iconst 0) 1 320 := ⟨by decide +kernel, rfl⟩
theorem d_L_law_320 : gD m_L_law 320 .ireturn 1 321 := ⟨by decide +kernel, rfl⟩
end
section
/-! decode rows (wip/emit.py) -/
theorem d_L_law_321 : gD m_L_law 321 (.goto 806) 3 324 := ⟨by decide +kernel, rfl⟩
theorem d_L_law_324 : gD m_L_law 324 (.aload_n 1) 1 325 := ⟨by decide +kernel, rfl⟩
theorem d_L_law_325 : gD m_L_law 325 (.aload_n 0) 1 326 := ⟨by decide +kernel, rfl⟩
theorem d_L_law_326 : gD m_L_law 326 (.iload 4) 2 328 := ⟨by decide +kernel, rfl⟩
theorem d_L_law_328 : gD m_L_law 328 (.iconst 1) 1 329 := ⟨by decide +kernel, rfl⟩
theorem d_L_law_329 : gD m_L_law 329 .iadd 1 330 := ⟨by decide +kernel, rfl⟩
theorem d_L_law_330 : gD m_L_law 330 .iaload 1 331 := ⟨by decide +kernel, rfl⟩
theorem d_L_law_331 : gD m_L_law 331 (.aload_n 0) 1 332 := ⟨by decide +kernel, rfl⟩
theorem d_L_law_332 : gD m_L_law 332 (.iload 4) 2 334 := ⟨by decide +kernel, rfl⟩
theorem d_L_law_334 : gD m_L_law 334 (.iconst 2) 1 335 := ⟨by decide +kernel, rfl⟩
theorem d_L_law_335 : gD m_L_law 335 .iadd 1 336 := ⟨by decide +kernel, rfl⟩
theorem d_L_law_336 : gD m_L_law 336 .iaload 1 337 := ⟨by decide +kernel, rfl⟩
theorem d_L_law_337 : gD m_L_law 337 (.aload_n 3) 1 338 := ⟨by decide +kernel, rfl⟩
theorem d_L_law_338 : gD m_L_law 338 (.invokestatic 101) 3 341 := ⟨by decide +kernel, rfl⟩
theorem d_L_law_341 : gD m_L_law 341 (.istore 5) 2 343 := ⟨by decide +kernel, rfl⟩
theorem d_L_law_343 : gD m_L_law 343 (.aload_n 2) 1 344 := ⟨by decide +kernel, rfl⟩
theorem d_L_law_344 : gD m_L_law 344 (.aload_n 0) 1 345 := ⟨by decide +kernel, rfl⟩
theorem d_L_law_345 : gD m_L_law 345 (.iload 4) 2 347 := ⟨by decide +kernel, rfl⟩
theorem d_L_law_347 : gD m_L_law 347 (.iconst 1) 1 348 := ⟨by decide +kernel, rfl⟩
theorem d_L_law_348 : gD m_L_law 348 .iadd 1 349 := ⟨by decide +kernel, rfl⟩
theorem d_L_law_349 : gD m_L_law 349 .iaload 1 350 := ⟨by decide +kernel, rfl⟩
theorem d_L_law_350 : gD m_L_law 350 (.aload_n 0) 1 351 := ⟨by decide +kernel, rfl⟩
theorem d_L_law_351 : gD m_L_law 351 (.iload 4) 2 353 := ⟨by decide +kernel, rfl⟩
theorem d_L_law_353 : gD m_L_law 353 (.iconst 2) 1 354 := ⟨by decide +kernel, rfl⟩
theorem d_L_law_354 : gD m_L_law 354 .iadd 1 355 := ⟨by decide +kernel, rfl⟩
theorem d_L_law_355 : gD m_L_law 355 .iaload 1 356 := ⟨by decide +kernel, rfl⟩
theorem d_L_law_356 : gD m_L_law 356 (.invokevirtual 104) 3 359 := ⟨by decide +kernel, rfl⟩
theorem d_L_law_359 : gD m_L_law 359 (.istore 6) 2 361 := ⟨by decide +kernel, rfl⟩
theorem d_L_law_361 : gD m_L_law 361 (.aload_n 2) 1 362 := ⟨by decide +kernel, rfl⟩
theorem d_L_law_362 : gD m_L_law 362 (.invokevirtual 89) 3 365 := ⟨by decide +kernel, rfl⟩
theorem d_L_law_365 : gD m_L_law 365 (.iload 5) 2 367 := ⟨by decide +kernel, rfl⟩
theorem d_L_law_367 : gD m_L_law 367 (.if_icmp .eq 5) 3 370 := ⟨by decide +kernel, rfl⟩
theorem d_L_law_370 : gD m_L_law 370 (.iconst 0) 1 371 := ⟨by decide +kernel, rfl⟩
theorem d_L_law_371 : gD m_L_law 371 .ireturn 1 372 := ⟨by decide +kernel, rfl⟩
theorem d_L_law_372 : gD m_L_law 372 (.iload 5) 2 374 := ⟨by decide +kernel, rfl⟩
theorem d_L_law_374 : gD m_L_law 374 (.ifCond .ne 15) 3 377 := ⟨by decide +kernel, rfl⟩
theorem d_L_law_377 : gD m_L_law 377 (.aload_n 3) 1 378 := ⟨by decide +kernel, rfl⟩
theorem d_L_law_378 : gD m_L_law 378 (.iconst 0) 1 379 := ⟨by decide +kernel, rfl⟩
theorem d_L_law_379 : gD m_L_law 379 .laload 1 380 := ⟨by decide +kernel, rfl⟩
theorem d_L_law_380 : gD m_L_law 380 (.iload 6) 2 382 := ⟨by decide +kernel, rfl⟩
theorem d_L_law_382 : gD m_L_law 382 .i2l 1 383 := ⟨by decide +kernel, rfl⟩
theorem d_L_law_383 : gD m_L_law 383 .lcmp 1 384 := ⟨by decide +kernel, rfl⟩
theorem d_L_law_384 : gD m_L_law 384 (.ifCond .eq 5) 3 387 := ⟨by decide +kernel, rfl⟩
theorem d_L_law_387 : gD m_L_law 387 (.iconst 0) 1 388 := ⟨by decide +kernel, rfl⟩
theorem d_L_law_388 : gD m_L_law 388 .ireturn 1 389 := ⟨by decide +kernel, rfl⟩
theorem d_L_law_389 : gD m_L_law 389 (.goto 738) 3 392 := ⟨by decide +kernel, rfl⟩
theorem d_L_law_392 : gD m_L_law 392 (.aload_n 1) 1 393 := ⟨by decide +kernel, rfl⟩
theorem d_L_law_393 : gD m_L_law 393 (.aload_n 0) 1 394 := ⟨by decide +kernel, rfl⟩
theorem d_L_law_394 : gD m_L_law 394 (.iload 4) 2 396 := ⟨by decide +kernel, rfl⟩
theorem d_L_law_396 : gD m_L_law 396 (.iconst 1) 1 397 := ⟨by decide +kernel, rfl⟩
theorem d_L_law_397 : gD m_L_law 397 .iadd 1 398 := ⟨by decide +kernel, rfl⟩
theorem d_L_law_398 : gD m_L_law 398 .iaload 1 399 := ⟨by decide +kernel, rfl⟩
theorem d_L_law_399 : gD m_L_law 399 (.aload_n 0) 1 400 := ⟨by decide +kernel, rfl⟩
theorem d_L_law_400 : gD m_L_law 400 (.iload 4) 2 402 := ⟨by decide +kernel, rfl⟩
theorem d_L_law_402 : gD m_L_law 402 (.iconst 2) 1 403 := ⟨by decide +kernel, rfl⟩
theorem d_L_law_403 : gD m_L_law 403 .iadd 1 404 := ⟨by decide +kernel, rfl⟩
theorem d_L_law_404 : gD m_L_law 404 .iaload 1 405 := ⟨by decide +kernel, rfl⟩
theorem d_L_law_405 : gD m_L_law 405 (.aload_n 0) 1 406 := ⟨by decide +kernel, rfl⟩
theorem d_L_law_406 : gD m_L_law 406 (.iload 4) 2 408 := ⟨by decide +kernel, rfl⟩
theorem d_L_law_408 : gD m_L_law 408 (.iconst 3) 1 409 := ⟨by decide +kernel, rfl⟩
theorem d_L_law_409 : gD m_L_law 409 .iadd 1 410 := ⟨by decide +kernel, rfl⟩
theorem d_L_law_410 : gD m_L_law 410 .iaload 1 411 := ⟨by decide +kernel, rfl⟩
theorem d_L_law_411 : gD m_L_law 411 (.aload_n 0) 1 412 := ⟨by decide +kernel, rfl⟩
theorem d_L_law_412 : gD m_L_law 412 (.iload 4) 2 414 := ⟨by decide +kernel, rfl⟩
theorem d_L_law_414 : gD m_L_law 414 (.iconst 4) 1 415 := ⟨by decide +kernel, rfl⟩
theorem d_L_law_415 : gD m_L_law 415 .iadd 1 416 := ⟨by decide +kernel, rfl⟩
theorem d_L_law_416 : gD m_L_law 416 .iaload 1 417 := ⟨by decide +kernel, rfl⟩
theorem d_L_law_417 : gD m_L_law 417 (.invokestatic 105) 3 420 := ⟨by decide +kernel, rfl⟩
theorem d_L_law_420 : gD m_L_law 420 (.istore 5) 2 422 := ⟨by decide +kernel, rfl⟩
theorem d_L_law_422 : gD m_L_law 422 (.aload_n 2) 1 423 := ⟨by decide +kernel, rfl⟩
theorem d_L_law_423 : gD m_L_law 423 (.aload_n 0) 1 424 := ⟨by decide +kernel, rfl⟩
theorem d_L_law_424 : gD m_L_law 424 (.iload 4) 2 426 := ⟨by decide +kernel, rfl⟩
theorem d_L_law_426 : gD m_L_law 426 (.iconst 1) 1 427 := ⟨by decide +kernel, rfl⟩
theorem d_L_law_427 : gD m_L_law 427 .iadd 1 428 := ⟨by decide +kernel, rfl⟩
theorem d_L_law_428 : gD m_L_law 428 .iaload 1 429 := ⟨by decide +kernel, rfl⟩
theorem d_L_law_429 : gD m_L_law 429 (.aload_n 0) 1 430 := ⟨by decide +kernel, rfl⟩
theorem d_L_law_430 : gD m_L_law 430 (.iload 4) 2 432 := ⟨by decide +kernel, rfl⟩
theorem d_L_law_432 : gD m_L_law 432 (.iconst 2) 1 433 := ⟨by decide +kernel, rfl⟩
theorem d_L_law_433 : gD m_L_law 433 .iadd 1 434 := ⟨by decide +kernel, rfl⟩
theorem d_L_law_434 : gD m_L_law 434 .iaload 1 435 := ⟨by decide +kernel, rfl⟩
theorem d_L_law_435 : gD m_L_law 435 (.aload_n 0) 1 436 := ⟨by decide +kernel, rfl⟩
theorem d_L_law_436 : gD m_L_law 436 (.iload 4) 2 438 := ⟨by decide +kernel, rfl⟩
theorem d_L_law_438 : gD m_L_law 438 (.iconst 3) 1 439 := ⟨by decide +kernel, rfl⟩
theorem d_L_law_439 : gD m_L_law 439 .iadd 1 440 := ⟨by decide +kernel, rfl⟩
theorem d_L_law_440 : gD m_L_law 440 .iaload 1 441 := ⟨by decide +kernel, rfl⟩
theorem d_L_law_441 : gD m_L_law 441 (.aload_n 0) 1 442 := ⟨by decide +kernel, rfl⟩
theorem d_L_law_442 : gD m_L_law 442 (.iload 4) 2 444 := ⟨by decide +kernel, rfl⟩
theorem d_L_law_444 : gD m_L_law 444 (.iconst 4) 1 445 := ⟨by decide +kernel, rfl⟩
theorem d_L_law_445 : gD m_L_law 445 .iadd 1 446 := ⟨by decide +kernel, rfl⟩
theorem d_L_law_446 : gD m_L_law 446 .iaload 1 447 := ⟨by decide +kernel, rfl⟩
theorem d_L_law_447 : gD m_L_law 447 (.invokevirtual 108) 3 450 := ⟨by decide +kernel, rfl⟩
theorem d_L_law_450 : gD m_L_law 450 (.aload_n 2) 1 451 := ⟨by decide +kernel, rfl⟩
theorem d_L_law_451 : gD m_L_law 451 (.invokevirtual 89) 3 454 := ⟨by decide +kernel, rfl⟩
theorem d_L_law_454 : gD m_L_law 454 (.iload 5) 2 456 := ⟨by decide +kernel, rfl⟩
theorem d_L_law_456 : gD m_L_law 456 (.if_icmp .eq 5) 3 459 := ⟨by decide +kernel, rfl⟩
theorem d_L_law_459 : gD m_L_law 459 (.iconst 0) 1 460 := ⟨by decide +kernel, rfl⟩
theorem d_L_law_460 : gD m_L_law 460 .ireturn 1 461 := ⟨by decide +kernel, rfl⟩
theorem d_L_law_461 : gD m_L_law 461 (.goto 666) 3 464 := ⟨by decide +kernel, rfl⟩
theorem d_L_law_464 : gD m_L_law 464 (.aload_n 1) 1 465 := ⟨by decide +kernel, rfl⟩
theorem d_L_law_465 : gD m_L_law 465 (.aload_n 0) 1 466 := ⟨by decide +kernel, rfl⟩
theorem d_L_law_466 : gD m_L_law 466 (.iload 4) 2 468 := ⟨by decide +kernel, rfl⟩
theorem d_L_law_468 : gD m_L_law 468 (.iconst 1) 1 469 := ⟨by decide +kernel, rfl⟩
theorem d_L_law_469 : gD m_L_law 469 .iadd 1 470 := ⟨by decide +kernel, rfl⟩
theorem d_L_law_470 : gD m_L_law 470 .iaload 1 471 := ⟨by decide +kernel, rfl⟩
theorem d_L_law_471 : gD m_L_law 471 (.aload_n 0) 1 472 := ⟨by decide +kernel, rfl⟩
theorem d_L_law_472 : gD m_L_law 472 (.iload 4) 2 474 := ⟨by decide +kernel, rfl⟩
theorem d_L_law_474 : gD m_L_law 474 (.iconst 2) 1 475 := ⟨by decide +kernel, rfl⟩
theorem d_L_law_475 : gD m_L_law 475 .iadd 1 476 := ⟨by decide +kernel, rfl⟩
theorem d_L_law_476 : gD m_L_law 476 .iaload 1 477 := ⟨by decide +kernel, rfl⟩
theorem d_L_law_477 : gD m_L_law 477 (.invokestatic 109) 3 480 := ⟨by decide +kernel, rfl⟩
theorem d_L_law_480 : gD m_L_law 480 (.istore 5) 2 482 := ⟨by decide +kernel, rfl⟩
theorem d_L_law_482 : gD m_L_law 482 (.aload_n 2) 1 483 := ⟨by decide +kernel, rfl⟩
theorem d_L_law_483 : gD m_L_law 483 (.aload_n 0) 1 484 := ⟨by decide +kernel, rfl⟩
theorem d_L_law_484 : gD m_L_law 484 (.iload 4) 2 486 := ⟨by decide +kernel, rfl⟩
theorem d_L_law_486 : gD m_L_law 486 (.iconst 1) 1 487 := ⟨by decide +kernel, rfl⟩
theorem d_L_law_487 : gD m_L_law 487 .iadd 1 488 := ⟨by decide +kernel, rfl⟩
theorem d_L_law_488 : gD m_L_law 488 .iaload 1 489 := ⟨by decide +kernel, rfl⟩
theorem d_L_law_489 : gD m_L_law 489 (.aload_n 0) 1 490 := ⟨by decide +kernel, rfl⟩
theorem d_L_law_490 : gD m_L_law 490 (.iload 4) 2 492 := ⟨by decide +kernel, rfl⟩
theorem d_L_law_492 : gD m_L_law 492 (.iconst 2) 1 493 := ⟨by decide +kernel, rfl⟩
theorem d_L_law_493 : gD m_L_law 493 .iadd 1 494 := ⟨by decide +kernel, rfl⟩
theorem d_L_law_494 : gD m_L_law 494 .iaload 1 495 := ⟨by decide +kernel, rfl⟩
theorem d_L_law_495 : gD m_L_law 495 (.invokevirtual 112) 3 498 := ⟨by decide +kernel, rfl⟩
theorem d_L_law_498 : gD m_L_law 498 (.aload_n 2) 1 499 := ⟨by decide +kernel, rfl⟩
theorem d_L_law_499 : gD m_L_law 499 (.invokevirtual 89) 3 502 := ⟨by decide +kernel, rfl⟩
theorem d_L_law_502 : gD m_L_law 502 (.iload 5) 2 504 := ⟨by decide +kernel, rfl⟩
theorem d_L_law_504 : gD m_L_law 504 (.if_icmp .eq 5) 3 507 := ⟨by decide +kernel, rfl⟩
theorem d_L_law_507 : gD m_L_law 507 (.iconst 0) 1 508 := ⟨by decide +kernel, rfl⟩
theorem d_L_law_508 : gD m_L_law 508 .ireturn 1 509 := ⟨by decide +kernel, rfl⟩
theorem d_L_law_509 : gD m_L_law 509 (.goto 618) 3 512 := ⟨by decide +kernel, rfl⟩
theorem d_L_law_512 : gD m_L_law 512 (.aload_n 1) 1 513 := ⟨by decide +kernel, rfl⟩
theorem d_L_law_513 : gD m_L_law 513 (.invokevirtual 113) 3 516 := ⟨by decide +kernel, rfl⟩
theorem d_L_law_516 : gD m_L_law 516 (.aload_n 2) 1 517 := ⟨by decide +kernel, rfl⟩
theorem d_L_law_517 : gD m_L_law 517 (.invokevirtual 116) 3 520 := ⟨by decide +kernel, rfl⟩
theorem d_L_law_520 : gD m_L_law 520 (.if_icmp .eq 607) 3 523 := ⟨by decide +kernel, rfl⟩
theorem d_L_law_523 : gD m_L_law 523 (.iconst 0) 1 524 := ⟨by decide +kernel, rfl⟩
theorem d_L_law_524 : gD m_L_law 524 .ireturn 1 525 := ⟨by decide +kernel, rfl⟩
theorem d_L_law_525 : gD m_L_law 525 (.aload_n 1) 1 526 := ⟨by decide +kernel, rfl⟩
theorem d_L_law_526 : gD m_L_law 526 (.aload_n 0) 1 527 := ⟨by decide +kernel, rfl⟩
theorem d_L_law_527 : gD m_L_law 527 (.iload 4) 2 529 := ⟨by decide +kernel, rfl⟩
theorem d_L_law_529 : gD m_L_law 529 (.iconst 1) 1 530 := ⟨by decide +kernel, rfl⟩
theorem d_L_law_530 : gD m_L_law 530 .iadd 1 531 := ⟨by decide +kernel, rfl⟩
theorem d_L_law_531 : gD m_L_law 531 .iaload 1 532 := ⟨by decide +kernel, rfl⟩
theorem d_L_law_532 : gD m_L_law 532 (.aload_n 3) 1 533 := ⟨by decide +kernel, rfl⟩
theorem d_L_law_533 : gD m_L_law 533 (.invokestatic 117) 3 536 := ⟨by decide +kernel, rfl⟩
theorem d_L_law_536 : gD m_L_law 536 (.istore 5) 2 538 := ⟨by decide +kernel, rfl⟩
theorem d_L_law_538 : gD m_L_law 538 (.aload_n 2) 1 539 := ⟨by decide +kernel, rfl⟩
theorem d_L_law_539 : gD m_L_law 539 (.aload_n 0) 1 540 := ⟨by decide +kernel, rfl⟩
theorem d_L_law_540 : gD m_L_law 540 (.iload 4) 2 542 := ⟨by decide +kernel, rfl⟩
theorem d_L_law_542 : gD m_L_law 542 (.iconst 1) 1 543 := ⟨by decide +kernel, rfl⟩
theorem d_L_law_543 : gD m_L_law 543 .iadd 1 544 := ⟨by decide +kernel, rfl⟩
theorem d_L_law_544 : gD m_L_law 544 .iaload 1 545 := ⟨by decide +kernel, rfl⟩
theorem d_L_law_545 : gD m_L_law 545 (.invokevirtual 120) 3 548 := ⟨by decide +kernel, rfl⟩
theorem d_L_law_548 : gD m_L_law 548 (.istore 6) 2 550 := ⟨by decide +kernel, rfl⟩
theorem d_L_law_550 : gD m_L_law 550 (.aload_n 2) 1 551 := ⟨by decide +kernel, rfl⟩
theorem d_L_law_551 : gD m_L_law 551 (.invokevirtual 89) 3 554 := ⟨by decide +kernel, rfl⟩
theorem d_L_law_554 : gD m_L_law 554 (.iload 5) 2 556 := ⟨by decide +kernel, rfl⟩
theorem d_L_law_556 : gD m_L_law 556 (.if_icmp .eq 5) 3 559 := ⟨by decide +kernel, rfl⟩
theorem d_L_law_559 : gD m_L_law 559 (.iconst 0) 1 560 := ⟨by decide +kernel, rfl⟩
theorem d_L_law_560 : gD m_L_law 560 .ireturn 1 561 := ⟨by decide +kernel, rfl⟩
theorem d_L_law_561 : gD m_L_law 561 (.iload 5) 2 563 := ⟨by decide +kernel, rfl⟩
theorem d_L_law_563 : gD m_L_law 563 (.ifCond .ne 15) 3 566 := ⟨by decide +kernel, rfl⟩
theorem d_L_law_566 : gD m_L_law 566 (.aload_n 3) 1 567 := ⟨by decide +kernel, rfl⟩
theorem d_L_law_567 : gD m_L_law 567 (.iconst 0) 1 568 := ⟨by decide +kernel, rfl⟩
theorem d_L_law_568 : gD m_L_law 568 .laload 1 569 := ⟨by decide +kernel, rfl⟩
theorem d_L_law_569 : gD m_L_law 569 (.iload 6) 2 571 := ⟨by decide +kernel, rfl⟩
theorem d_L_law_571 : gD m_L_law 571 .i2l 1 572 := ⟨by decide +kernel, rfl⟩
theorem d_L_law_572 : gD m_L_law 572 .lcmp 1 573 := ⟨by decide +kernel, rfl⟩
theorem d_L_law_573 : gD m_L_law 573 (.ifCond .eq 5) 3 576 := ⟨by decide +kernel, rfl⟩
theorem d_L_law_576 : gD m_L_law 576 (.iconst 0) 1 577 := ⟨by decide +kernel, rfl⟩
theorem d_L_law_577 : gD m_L_law 577 .ireturn 1 578 := ⟨by decide +kernel, rfl⟩
theorem d_L_law_578 : gD m_L_law 578 (.goto 549) 3 581 := ⟨by decide +kernel, rfl⟩
theorem d_L_law_581 : gD m_L_law 581 (.aload_n 1) 1 582 := ⟨by decide +kernel, rfl⟩
theorem d_L_law_582 : gD m_L_law 582 (.aload_n 0) 1 583 := ⟨by decide +kernel, rfl⟩
theorem d_L_law_583 : gD m_L_law 583 (.iload 4) 2 585 := ⟨by decide +kernel, rfl⟩
theorem d_L_law_585 : gD m_L_law 585 (.iconst 1) 1 586 := ⟨by decide +kernel, rfl⟩
theorem d_L_law_586 : gD m_L_law 586 .iadd 1 587 := ⟨by decide +kernel, rfl⟩
theorem d_L_law_587 : gD m_L_law 587 .iaload 1 588 := ⟨by decide +kernel, rfl⟩
theorem d_L_law_588 : gD m_L_law 588 (.aload_n 3) 1 589 := ⟨by decide +kernel, rfl⟩
theorem d_L_law_589 : gD m_L_law 589 (.invokestatic 121) 3 592 := ⟨by decide +kernel, rfl⟩
theorem d_L_law_592 : gD m_L_law 592 (.istore 5) 2 594 := ⟨by decide +kernel, rfl⟩
theorem d_L_law_594 : gD m_L_law 594 (.aload_n 2) 1 595 := ⟨by decide +kernel, rfl⟩
theorem d_L_law_595 : gD m_L_law 595 (.aload_n 0) 1 596 := ⟨by decide +kernel, rfl⟩
theorem d_L_law_596 : gD m_L_law 596 (.iload 4) 2 598 := ⟨by decide +kernel, rfl⟩
theorem d_L_law_598 : gD m_L_law 598 (.iconst 1) 1 599 := ⟨by decide +kernel, rfl⟩
theorem d_L_law_599 : gD m_L_law 599 .iadd 1 600 := ⟨by decide +kernel, rfl⟩
theorem d_L_law_600 : gD m_L_law 600 .iaload 1 601 := ⟨by decide +kernel, rfl⟩
theorem d_L_law_601 : gD m_L_law 601 (.invokevirtual 123) 3 604 := ⟨by decide +kernel, rfl⟩
theorem d_L_law_604 : gD m_L_law 604 (.istore 6) 2 606 := ⟨by decide +kernel, rfl⟩
theorem d_L_law_606 : gD m_L_law 606 (.aload_n 2) 1 607 := ⟨by decide +kernel, rfl⟩
theorem d_L_law_607 : gD m_L_law 607 (.invokevirtual 89) 3 610 := ⟨by decide +kernel, rfl⟩
theorem d_L_law_610 : gD m_L_law 610 (.iload 5) 2 612 := ⟨by decide +kernel, rfl⟩
theorem d_L_law_612 : gD m_L_law 612 (.if_icmp .eq 5) 3 615 := ⟨by decide +kernel, rfl⟩
theorem d_L_law_615 : gD m_L_law 615 (.iconst 0) 1 616 := ⟨by decide +kernel, rfl⟩
theorem d_L_law_616 : gD m_L_law 616 .ireturn 1 617 := ⟨by decide +kernel, rfl⟩
theorem d_L_law_617 : gD m_L_law 617 (.iload 5) 2 619 := ⟨by decide +kernel, rfl⟩
theorem d_L_law_619 : gD m_L_law 619 (.ifCond .ne 15) 3 622 := ⟨by decide +kernel, rfl⟩
theorem d_L_law_622 : gD m_L_law 622 (.aload_n 3) 1 623 := ⟨by decide +kernel, rfl⟩
theorem d_L_law_623 : gD m_L_law 623 (.iconst 0) 1 624 := ⟨by decide +kernel, rfl⟩
theorem d_L_law_624 : gD m_L_law 624 .laload 1 625 := ⟨by decide +kernel, rfl⟩
theorem d_L_law_625 : gD m_L_law 625 (.iload 6) 2 627 := ⟨by decide +kernel, rfl⟩
theorem d_L_law_627 : gD m_L_law 627 .i2l 1 628 := ⟨by decide +kernel, rfl⟩
theorem d_L_law_628 : gD m_L_law 628 .lcmp 1 629 := ⟨by decide +kernel, rfl⟩
theorem d_L_law_629 : gD m_L_law 629 (.ifCond .eq 5) 3 632 := ⟨by decide +kernel, rfl⟩
theorem d_L_law_632 : gD m_L_law 632 (.iconst 0) 1 633 := ⟨by decide +kernel, rfl⟩
theorem d_L_law_633 : gD m_L_law 633 .ireturn 1 634 := ⟨by decide +kernel, rfl⟩
theorem d_L_law_634 : gD m_L_law 634 (.goto 493) 3 637 := ⟨by decide +kernel, rfl⟩
theorem d_L_law_637 : gD m_L_law 637 (.aload_n 1) 1 638 := ⟨by decide +kernel, rfl⟩
theorem d_L_law_638 : gD m_L_law 638 (.aload_n 0) 1 639 := ⟨by decide +kernel, rfl⟩
theorem d_L_law_639 : gD m_L_law 639 (.iload 4) 2 641 := ⟨by decide +kernel, rfl⟩
theorem d_L_law_641 : gD m_L_law 641 (.iconst 1) 1 642 := ⟨by decide +kernel, rfl⟩
theorem d_L_law_642 : gD m_L_law 642 .iadd 1 643 := ⟨by decide +kernel, rfl⟩
theorem d_L_law_643 : gD m_L_law 643 .iaload 1 644 := ⟨by decide +kernel, rfl⟩
theorem d_L_law_644 : gD m_L_law 644 (.aload_n 3) 1 645 := ⟨by decide +kernel, rfl⟩
theorem d_L_law_645 : gD m_L_law 645 (.invokestatic 124) 3 648 := ⟨by decide +kernel, rfl⟩
theorem d_L_law_648 : gD m_L_law 648 (.istore 5) 2 650 := ⟨by decide +kernel, rfl⟩
theorem d_L_law_650 : gD m_L_law 650 (.aload_n 2) 1 651 := ⟨by decide +kernel, rfl⟩
theorem d_L_law_651 : gD m_L_law 651 (.aload_n 0) 1 652 := ⟨by decide +kernel, rfl⟩
theorem d_L_law_652 : gD m_L_law 652 (.iload 4) 2 654 := ⟨by decide +kernel, rfl⟩
theorem d_L_law_654 : gD m_L_law 654 (.iconst 1) 1 655 := ⟨by decide +kernel, rfl⟩
theorem d_L_law_655 : gD m_L_law 655 .iadd 1 656 := ⟨by decide +kernel, rfl⟩
theorem d_L_law_656 : gD m_L_law 656 .iaload 1 657 := ⟨by decide +kernel, rfl⟩
theorem d_L_law_657 : gD m_L_law 657 (.invokevirtual 126) 3 660 := ⟨by decide +kernel, rfl⟩
theorem d_L_law_660 : gD m_L_law 660 (.istore 6) 2 662 := ⟨by decide +kernel, rfl⟩
theorem d_L_law_662 : gD m_L_law 662 (.aload_n 2) 1 663 := ⟨by decide +kernel, rfl⟩
theorem d_L_law_663 : gD m_L_law 663 (.invokevirtual 89) 3 666 := ⟨by decide +kernel, rfl⟩
theorem d_L_law_666 : gD m_L_law 666 (.iload 5) 2 668 := ⟨by decide +kernel, rfl⟩
theorem d_L_law_668 : gD m_L_law 668 (.if_icmp .eq 5) 3 671 := ⟨by decide +kernel, rfl⟩
theorem d_L_law_671 : gD m_L_law 671 (.iconst 0) 1 672 := ⟨by decide +kernel, rfl⟩
theorem d_L_law_672 : gD m_L_law 672 .ireturn 1 673 := ⟨by decide +kernel, rfl⟩
theorem d_L_law_673 : gD m_L_law 673 (.iload 5) 2 675 := ⟨by decide +kernel, rfl⟩
theorem d_L_law_675 : gD m_L_law 675 (.ifCond .ne 15) 3 678 := ⟨by decide +kernel, rfl⟩
theorem d_L_law_678 : gD m_L_law 678 (.aload_n 3) 1 679 := ⟨by decide +kernel, rfl⟩
theorem d_L_law_679 : gD m_L_law 679 (.iconst 0) 1 680 := ⟨by decide +kernel, rfl⟩
theorem d_L_law_680 : gD m_L_law 680 .laload 1 681 := ⟨by decide +kernel, rfl⟩
theorem d_L_law_681 : gD m_L_law 681 (.iload 6) 2 683 := ⟨by decide +kernel, rfl⟩
theorem d_L_law_683 : gD m_L_law 683 .i2l 1 684 := ⟨by decide +kernel, rfl⟩
theorem d_L_law_684 : gD m_L_law 684 .lcmp 1 685 := ⟨by decide +kernel, rfl⟩
theorem d_L_law_685 : gD m_L_law 685 (.ifCond .eq 5) 3 688 := ⟨by decide +kernel, rfl⟩
theorem d_L_law_688 : gD m_L_law 688 (.iconst 0) 1 689 := ⟨by decide +kernel, rfl⟩
theorem d_L_law_689 : gD m_L_law 689 .ireturn 1 690 := ⟨by decide +kernel, rfl⟩
theorem d_L_law_690 : gD m_L_law 690 (.goto 437) 3 693 := ⟨by decide +kernel, rfl⟩
theorem d_L_law_693 : gD m_L_law 693 (.aload_n 1) 1 694 := ⟨by decide +kernel, rfl⟩
theorem d_L_law_694 : gD m_L_law 694 (.aload_n 0) 1 695 := ⟨by decide +kernel, rfl⟩
theorem d_L_law_695 : gD m_L_law 695 (.iload 4) 2 697 := ⟨by decide +kernel, rfl⟩
theorem d_L_law_697 : gD m_L_law 697 (.iconst 1) 1 698 := ⟨by decide +kernel, rfl⟩
theorem d_L_law_698 : gD m_L_law 698 .iadd 1 699 := ⟨by decide +kernel, rfl⟩
theorem d_L_law_699 : gD m_L_law 699 .iaload 1 700 := ⟨by decide +kernel, rfl⟩
theorem d_L_law_700 : gD m_L_law 700 (.aload_n 0) 1 701 := ⟨by decide +kernel, rfl⟩
theorem d_L_law_701 : gD m_L_law 701 (.iload 4) 2 703 := ⟨by decide +kernel, rfl⟩
theorem d_L_law_703 : gD m_L_law 703 (.iconst 2) 1 704 := ⟨by decide +kernel, rfl⟩
theorem d_L_law_704 : gD m_L_law 704 .iadd 1 705 := ⟨by decide +kernel, rfl⟩
theorem d_L_law_705 : gD m_L_law 705 .iaload 1 706 := ⟨by decide +kernel, rfl⟩
theorem d_L_law_706 : gD m_L_law 706 (.aload_n 3) 1 707 := ⟨by decide +kernel, rfl⟩
theorem d_L_law_707 : gD m_L_law 707 (.invokestatic 127) 3 710 := ⟨by decide +kernel, rfl⟩
theorem d_L_law_710 : gD m_L_law 710 (.istore 5) 2 712 := ⟨by decide +kernel, rfl⟩
theorem d_L_law_712 : gD m_L_law 712 (.aload_n 2) 1 713 := ⟨by decide +kernel, rfl⟩
theorem d_L_law_713 : gD m_L_law 713 (.aload_n 0) 1 714 := ⟨by decide +kernel, rfl⟩
theorem d_L_law_714 : gD m_L_law 714 (.iload 4) 2 716 := ⟨by decide +kernel, rfl⟩
theorem d_L_law_716 : gD m_L_law 716 (.iconst 1) 1 717 := ⟨by decide +kernel, rfl⟩
theorem d_L_law_717 : gD m_L_law 717 .iadd 1 718 := ⟨by decide +kernel, rfl⟩
theorem d_L_law_718 : gD m_L_law 718 .iaload 1 719 := ⟨by decide +kernel, rfl⟩
theorem d_L_law_719 : gD m_L_law 719 (.aload_n 0) 1 720 := ⟨by decide +kernel, rfl⟩
theorem d_L_law_720 : gD m_L_law 720 (.iload 4) 2 722 := ⟨by decide +kernel, rfl⟩
theorem d_L_law_722 : gD m_L_law 722 (.iconst 2) 1 723 := ⟨by decide +kernel, rfl⟩
theorem d_L_law_723 : gD m_L_law 723 .iadd 1 724 := ⟨by decide +kernel, rfl⟩
theorem d_L_law_724 : gD m_L_law 724 .iaload 1 725 := ⟨by decide +kernel, rfl⟩
theorem d_L_law_725 : gD m_L_law 725 (.invokevirtual 129) 3 728 := ⟨by decide +kernel, rfl⟩
theorem d_L_law_728 : gD m_L_law 728 (.istore 6) 2 730 := ⟨by decide +kernel, rfl⟩
theorem d_L_law_730 : gD m_L_law 730 (.aload_n 2) 1 731 := ⟨by decide +kernel, rfl⟩
theorem d_L_law_731 : gD m_L_law 731 (.invokevirtual 89) 3 734 := ⟨by decide +kernel, rfl⟩
theorem d_L_law_734 : gD m_L_law 734 (.iload 5) 2 736 := ⟨by decide +kernel, rfl⟩
theorem d_L_law_736 : gD m_L_law 736 (.if_icmp .eq 5) 3 739 := ⟨by decide +kernel, rfl⟩
theorem d_L_law_739 : gD m_L_law 739 (.iconst 0) 1 740 := ⟨by decide +kernel, rfl⟩
theorem d_L_law_740 : gD m_L_law 740 .ireturn 1 741 := ⟨by decide +kernel, rfl⟩
theorem d_L_law_741 : gD m_L_law 741 (.iload 5) 2 743 := ⟨by decide +kernel, rfl⟩
theorem d_L_law_743 : gD m_L_law 743 (.ifCond .ne 15) 3 746 := ⟨by decide +kernel, rfl⟩
theorem d_L_law_746 : gD m_L_law 746 (.aload_n 3) 1 747 := ⟨by decide +kernel, rfl⟩
theorem d_L_law_747 : gD m_L_law 747 (.iconst 0) 1 748 := ⟨by decide +kernel, rfl⟩
theorem d_L_law_748 : gD m_L_law 748 .laload 1 749 := ⟨by decide +kernel, rfl⟩
theorem d_L_law_749 : gD m_L_law 749 (.iload 6) 2 751 := ⟨by decide +kernel, rfl⟩
theorem d_L_law_751 : gD m_L_law 751 .i2l 1 752 := ⟨by decide +kernel, rfl⟩
theorem d_L_law_752 : gD m_L_law 752 .lcmp 1 753 := ⟨by decide +kernel, rfl⟩
theorem d_L_law_753 : gD m_L_law 753 (.ifCond .eq 5) 3 756 := ⟨by decide +kernel, rfl⟩
theorem d_L_law_756 : gD m_L_law 756 (.iconst 0) 1 757 := ⟨by decide +kernel, rfl⟩
theorem d_L_law_757 : gD m_L_law 757 .ireturn 1 758 := ⟨by decide +kernel, rfl⟩
theorem d_L_law_758 : gD m_L_law 758 (.goto 369) 3 761 := ⟨by decide +kernel, rfl⟩
theorem d_L_law_761 : gD m_L_law 761 (.aload_n 1) 1 762 := ⟨by decide +kernel, rfl⟩
theorem d_L_law_762 : gD m_L_law 762 (.invokevirtual 130) 3 765 := ⟨by decide +kernel, rfl⟩
theorem d_L_law_765 : gD m_L_law 765 (.aload_n 2) 1 766 := ⟨by decide +kernel, rfl⟩
theorem d_L_law_766 : gD m_L_law 766 (.invokevirtual 133) 3 769 := ⟨by decide +kernel, rfl⟩
theorem d_L_law_769 : gD m_L_law 769 (.if_icmp .eq 358) 3 772 := ⟨by decide +kernel, rfl⟩
theorem d_L_law_772 : gD m_L_law 772 (.iconst 0) 1 773 := ⟨by decide +kernel, rfl⟩
theorem d_L_law_773 : gD m_L_law 773 .ireturn 1 774 := ⟨by decide +kernel, rfl⟩
theorem d_L_law_774 : gD m_L_law 774 (.aload_n 1) 1 775 := ⟨by decide +kernel, rfl⟩
theorem d_L_law_775 : gD m_L_law 775 (.aload_n 0) 1 776 := ⟨by decide +kernel, rfl⟩
theorem d_L_law_776 : gD m_L_law 776 (.iload 4) 2 778 := ⟨by decide +kernel, rfl⟩
theorem d_L_law_778 : gD m_L_law 778 (.iconst 1) 1 779 := ⟨by decide +kernel, rfl⟩
theorem d_L_law_779 : gD m_L_law 779 .iadd 1 780 := ⟨by decide +kernel, rfl⟩
theorem d_L_law_780 : gD m_L_law 780 .iaload 1 781 := ⟨by decide +kernel, rfl⟩
theorem d_L_law_781 : gD m_L_law 781 (.aload_n 0) 1 782 := ⟨by decide +kernel, rfl⟩
theorem d_L_law_782 : gD m_L_law 782 (.iload 4) 2 784 := ⟨by decide +kernel, rfl⟩
theorem d_L_law_784 : gD m_L_law 784 (.iconst 2) 1 785 := ⟨by decide +kernel, rfl⟩
theorem d_L_law_785 : gD m_L_law 785 .iadd 1 786 := ⟨by decide +kernel, rfl⟩
theorem d_L_law_786 : gD m_L_law 786 .iaload 1 787 := ⟨by decide +kernel, rfl⟩
theorem d_L_law_787 : gD m_L_law 787 (.aload_n 3) 1 788 := ⟨by decide +kernel, rfl⟩
theorem d_L_law_788 : gD m_L_law 788 (.invokestatic 134) 3 791 := ⟨by decide +kernel, rfl⟩
theorem d_L_law_791 : gD m_L_law 791 (.istore 5) 2 793 := ⟨by decide +kernel, rfl⟩
theorem d_L_law_793 : gD m_L_law 793 (.aload_n 2) 1 794 := ⟨by decide +kernel, rfl⟩
theorem d_L_law_794 : gD m_L_law 794 (.aload_n 0) 1 795 := ⟨by decide +kernel, rfl⟩
theorem d_L_law_795 : gD m_L_law 795 (.iload 4) 2 797 := ⟨by decide +kernel, rfl⟩
theorem d_L_law_797 : gD m_L_law 797 (.iconst 1) 1 798 := ⟨by decide +kernel, rfl⟩
theorem d_L_law_798 : gD m_L_law 798 .iadd 1 799 := ⟨by decide +kernel, rfl⟩
theorem d_L_law_799 : gD m_L_law 799 .iaload 1 800 := ⟨by decide +kernel, rfl⟩
theorem d_L_law_800 : gD m_L_law 800 (.aload_n 0) 1 801 := ⟨by decide +kernel, rfl⟩
theorem d_L_law_801 : gD m_L_law 801 (.iload 4) 2 803 := ⟨by decide +kernel, rfl⟩
theorem d_L_law_803 : gD m_L_law 803 (.iconst 2) 1 804 := ⟨by decide +kernel, rfl⟩
theorem d_L_law_804 : gD m_L_law 804 .iadd 1 805 := ⟨by decide +kernel, rfl⟩
theorem d_L_law_805 : gD m_L_law 805 .iaload 1 806 := ⟨by decide +kernel, rfl⟩
theorem d_L_law_806 : gD m_L_law 806 (.invokevirtual 136) 3 809 := ⟨by decide +kernel, rfl⟩
theorem d_L_law_809 : gD m_L_law 809 (.istore 6) 2 811 := ⟨by decide +kernel, rfl⟩
theorem d_L_law_811 : gD m_L_law 811 (.aload_n 2) 1 812 := ⟨by decide +kernel, rfl⟩
theorem d_L_law_812 : gD m_L_law 812 (.invokevirtual 89) 3 815 := ⟨by decide +kernel, rfl⟩
theorem d_L_law_815 : gD m_L_law 815 (.iload 5) 2 817 := ⟨by decide +kernel, rfl⟩
theorem d_L_law_817 : gD m_L_law 817 (.if_icmp .eq 5) 3 820 := ⟨by decide +kernel, rfl⟩
theorem d_L_law_820 : gD m_L_law 820 (.iconst 0) 1 821 := ⟨by decide +kernel, rfl⟩
theorem d_L_law_821 : gD m_L_law 821 .ireturn 1 822 := ⟨by decide +kernel, rfl⟩
theorem d_L_law_822 : gD m_L_law 822 (.iload 5) 2 824 := ⟨by decide +kernel, rfl⟩
theorem d_L_law_824 : gD m_L_law 824 (.ifCond .ne 15) 3 827 := ⟨by decide +kernel, rfl⟩
theorem d_L_law_827 : gD m_L_law 827 (.aload_n 3) 1 828 := ⟨by decide +kernel, rfl⟩
theorem d_L_law_828 : gD m_L_law 828 (.iconst 0) 1 829 := ⟨by decide +kernel, rfl⟩
theorem d_L_law_829 : gD m_L_law 829 .laload 1 830 := ⟨by decide +kernel, rfl⟩
theorem d_L_law_830 : gD m_L_law 830 (.iload 6) 2 832 := ⟨by decide +kernel, rfl⟩
theorem d_L_law_832 : gD m_L_law 832 .i2l 1 833 := ⟨by decide +kernel, rfl⟩
theorem d_L_law_833 : gD m_L_law 833 .lcmp 1 834 := ⟨by decide +kernel, rfl⟩
theorem d_L_law_834 : gD m_L_law 834 (.ifCond .eq 5) 3 837 := ⟨by decide +kernel, rfl⟩
theorem d_L_law_837 : gD m_L_law 837 (.iconst 0) 1 838 := ⟨by decide +kernel, rfl⟩
theorem d_L_law_838 : gD m_L_law 838 .ireturn 1 839 := ⟨by decide +kernel, rfl⟩
theorem d_L_law_839 : gD m_L_law 839 (.goto 288) 3 842 := ⟨by decide +kernel, rfl⟩
theorem d_L_law_842 : gD m_L_law 842 (.aload_n 1) 1 843 := ⟨by decide +kernel, rfl⟩
theorem d_L_law_843 : gD m_L_law 843 (.invokevirtual 137) 3 846 := ⟨by decide +kernel, rfl⟩
theorem d_L_law_846 : gD m_L_law 846 (.aload_n 2) 1 847 := ⟨by decide +kernel, rfl⟩
theorem d_L_law_847 : gD m_L_law 847 (.invokevirtual 140) 3 850 := ⟨by decide +kernel, rfl⟩
theorem d_L_law_850 : gD m_L_law 850 (.if_icmp .eq 277) 3 853 := ⟨by decide +kernel, rfl⟩
theorem d_L_law_853 : gD m_L_law 853 (.iconst 0) 1 854 := ⟨by decide +kernel, rfl⟩
theorem d_L_law_854 : gD m_L_law 854 .ireturn 1 855 := ⟨by decide +kernel, rfl⟩
theorem d_L_law_855 : gD m_L_law 855 (.aload_n 1) 1 856 := ⟨by decide +kernel, rfl⟩
theorem d_L_law_856 : gD m_L_law 856 (.invokevirtual 141) 3 859 := ⟨by decide +kernel, rfl⟩
theorem d_L_law_859 : gD m_L_law 859 (.aload_n 2) 1 860 := ⟨by decide +kernel, rfl⟩
theorem d_L_law_860 : gD m_L_law 860 (.invokevirtual 144) 3 863 := ⟨by decide +kernel, rfl⟩
theorem d_L_law_863 : gD m_L_law 863 (.if_icmp .eq 264) 3 866 := ⟨by decide +kernel, rfl⟩
theorem d_L_law_866 : gD m_L_law 866 (.iconst 0) 1 867 := ⟨by decide +kernel, rfl⟩
theorem d_L_law_867 : gD m_L_law 867 .ireturn 1 868 := ⟨by decide +kernel, rfl⟩
theorem d_L_law_868 : gD m_L_law 868 (.aload_n 1) 1 869 := ⟨by decide +kernel, rfl⟩
theorem d_L_law_869 : gD m_L_law 869 (.aload_n 0) 1 870 := ⟨by decide +kernel, rfl⟩
theorem d_L_law_870 : gD m_L_law 870 (.iload 4) 2 872 := ⟨by decide +kernel, rfl⟩
theorem d_L_law_872 : gD m_L_law 872 (.iconst 1) 1 873 := ⟨by decide +kernel, rfl⟩
theorem d_L_law_873 : gD m_L_law 873 .iadd 1 874 := ⟨by decide +kernel, rfl⟩
theorem d_L_law_874 : gD m_L_law 874 .iaload 1 875 := ⟨by decide +kernel, rfl⟩
theorem d_L_law_875 : gD m_L_law 875 (.invokestatic 145) 3 878 := ⟨by decide +kernel, rfl⟩
theorem d_L_law_878 : gD m_L_law 878 (.istore 5) 2 880 := ⟨by decide +kernel, rfl⟩
theorem d_L_law_880 : gD m_L_law 880 (.aload_n 2) 1 881 := ⟨by decide +kernel, rfl⟩
theorem d_L_law_881 : gD m_L_law 881 (.aload_n 0) 1 882 := ⟨by decide +kernel, rfl⟩
theorem d_L_law_882 : gD m_L_law 882 (.iload 4) 2 884 := ⟨by decide +kernel, rfl⟩
theorem d_L_law_884 : gD m_L_law 884 (.iconst 1) 1 885 := ⟨by decide +kernel, rfl⟩
theorem d_L_law_885 : gD m_L_law 885 .iadd 1 886 := ⟨by decide +kernel, rfl⟩
theorem d_L_law_886 : gD m_L_law 886 .iaload 1 887 := ⟨by decide +kernel, rfl⟩
theorem d_L_law_887 : gD m_L_law 887 (.invokevirtual 147) 3 890 := ⟨by decide +kernel, rfl⟩
theorem d_L_law_890 : gD m_L_law 890 (.aload_n 2) 1 891 := ⟨by decide +kernel, rfl⟩
theorem d_L_law_891 : gD m_L_law 891 (.invokevirtual 89) 3 894 := ⟨by decide +kernel, rfl⟩
theorem d_L_law_894 : gD m_L_law 894 (.iload 5) 2 896 := ⟨by decide +kernel, rfl⟩
theorem d_L_law_896 : gD m_L_law 896 (.if_icmp .eq 5) 3 899 := ⟨by decide +kernel, rfl⟩
theorem d_L_law_899 : gD m_L_law 899 (.iconst 0) 1 900 := ⟨by decide +kernel, rfl⟩
theorem d_L_law_900 : gD m_L_law 900 .ireturn 1 901 := ⟨by decide +kernel, rfl⟩
theorem d_L_law_901 : gD m_L_law 901 (.goto 226) 3 904 := ⟨by decide +kernel, rfl⟩
theorem d_L_law_904 : gD m_L_law 904 (.aload_n 1) 1 905 := ⟨by decide +kernel, rfl⟩
theorem d_L_law_905 : gD m_L_law 905 (.invokevirtual 148) 3 908 := ⟨by decide +kernel, rfl⟩
theorem d_L_law_908 : gD m_L_law 908 (.aload_n 2) 1 909 := ⟨by decide +kernel, rfl⟩
theorem d_L_law_909 : gD m_L_law 909 (.invokevirtual 151) 3 912 := ⟨by decide +kernel, rfl⟩
theorem d_L_law_912 : gD m_L_law 912 (.if_icmp .eq 215) 3 915 := ⟨by decide +kernel, rfl⟩
theorem d_L_law_915 : gD m_L_law 915 (.iconst 0) 1 916 := ⟨by decide +kernel, rfl⟩
theorem d_L_law_916 : gD m_L_law 916 .ireturn 1 917 := ⟨by decide +kernel, rfl⟩
theorem d_L_law_917 : gD m_L_law 917 (.aload_n 1) 1 918 := ⟨by decide +kernel, rfl⟩
theorem d_L_law_918 : gD m_L_law 918 (.aload_n 0) 1 919 := ⟨by decide +kernel, rfl⟩
theorem d_L_law_919 : gD m_L_law 919 (.iload 4) 2 921 := ⟨by decide +kernel, rfl⟩
theorem d_L_law_921 : gD m_L_law 921 (.iconst 1) 1 922 := ⟨by decide +kernel, rfl⟩
theorem d_L_law_922 : gD m_L_law 922 .iadd 1 923 := ⟨by decide +kernel, rfl⟩
theorem d_L_law_923 : gD m_L_law 923 .iaload 1 924 := ⟨by decide +kernel, rfl⟩
theorem d_L_law_924 : gD m_L_law 924 (.aload_n 3) 1 925 := ⟨by decide +kernel, rfl⟩
theorem d_L_law_925 : gD m_L_law 925 (.invokestatic 152) 3 928 := ⟨by decide +kernel, rfl⟩
theorem d_L_law_928 : gD m_L_law 928 (.istore 5) 2 930 := ⟨by decide +kernel, rfl⟩
theorem d_L_law_930 : gD m_L_law 930 (.aload_n 2) 1 931 := ⟨by decide +kernel, rfl⟩
theorem d_L_law_931 : gD m_L_law 931 (.aload_n 0) 1 932 := ⟨by decide +kernel, rfl⟩
theorem d_L_law_932 : gD m_L_law 932 (.iload 4) 2 934 := ⟨by decide +kernel, rfl⟩
theorem d_L_law_934 : gD m_L_law 934 (.iconst 1) 1 935 := ⟨by decide +kernel, rfl⟩
theorem d_L_law_935 : gD m_L_law 935 .iadd 1 936 := ⟨by decide +kernel, rfl⟩
theorem d_L_law_936 : gD m_L_law 936 .iaload 1 937 := ⟨by decide +kernel, rfl⟩
theorem d_L_law_937 : gD m_L_law 937 (.invokevirtual 154) 3 940 := ⟨by decide +kernel, rfl⟩
theorem d_L_law_940 : gD m_L_law 940 (.lstore 6) 2 942 := ⟨by decide +kernel, rfl⟩
theorem d_L_law_942 : gD m_L_law 942 (.aload_n 2) 1 943 := ⟨by decide +kernel, rfl⟩
theorem d_L_law_943 : gD m_L_law 943 (.invokevirtual 89) 3 946 := ⟨by decide +kernel, rfl⟩
theorem d_L_law_946 : gD m_L_law 946 (.iload 5) 2 948 := ⟨by decide +kernel, rfl⟩
theorem d_L_law_948 : gD m_L_law 948 (.if_icmp .eq 5) 3 951 := ⟨by decide +kernel, rfl⟩
theorem d_L_law_951 : gD m_L_law 951 (.iconst 0) 1 952 := ⟨by decide +kernel, rfl⟩
theorem d_L_law_952 : gD m_L_law 952 .ireturn 1 953 := ⟨by decide +kernel, rfl⟩
theorem d_L_law_953 : gD m_L_law 953 (.iload 5) 2 955 := ⟨by decide +kernel, rfl⟩
theorem d_L_law_955 : gD m_L_law 955 (.ifCond .ne 14) 3 958 := ⟨by decide +kernel, rfl⟩
theorem d_L_law_958 : gD m_L_law 958 (.aload_n 3) 1 959 := ⟨by decide +kernel, rfl⟩
theorem d_L_law_959 : gD m_L_law 959 (.iconst 0) 1 960 := ⟨by decide +kernel, rfl⟩
theorem d_L_law_960 : gD m_L_law 960 .laload 1 961 := ⟨by decide +kernel, rfl⟩
theorem d_L_law_961 : gD m_L_law 961 (.lload 6) 2 963 := ⟨by decide +kernel, rfl⟩
theorem d_L_law_963 : gD m_L_law 963 .lcmp 1 964 := ⟨by decide +kernel, rfl⟩
theorem d_L_law_964 : gD m_L_law 964 (.ifCond .eq 5) 3 967 := ⟨by decide +kernel, rfl⟩
theorem d_L_law_967 : gD m_L_law 967 (.iconst 0) 1 968 := ⟨by decide +kernel, rfl⟩
theorem d_L_law_968 : gD m_L_law 968 .ireturn 1 969 := ⟨by decide +kernel, rfl⟩
theorem d_L_law_969 : gD m_L_law 969 (.goto 158) 3 972 := ⟨by decide +kernel, rfl⟩
theorem d_L_law_972 : gD m_L_law 972 (.aload_n 1) 1 973 := ⟨by decide +kernel, rfl⟩
theorem d_L_law_973 : gD m_L_law 973 (.aload_n 0) 1 974 := ⟨by decide +kernel, rfl⟩
theorem d_L_law_974 : gD m_L_law 974 (.iload 4) 2 976 := ⟨by decide +kernel, rfl⟩
theorem d_L_law_976 : gD m_L_law 976 (.iconst 1) 1 977 := ⟨by decide +kernel, rfl⟩
theorem d_L_law_977 : gD m_L_law 977 .iadd 1 978 := ⟨by decide +kernel, rfl⟩
theorem d_L_law_978 : gD m_L_law 978 .iaload 1 979 := ⟨by decide +kernel, rfl⟩
theorem d_L_law_979 : gD m_L_law 979 (.invokestatic 155) 3 982 := ⟨by decide +kernel, rfl⟩
theorem d_L_law_982 : gD m_L_law 982 (.istore 5) 2 984 := ⟨by decide +kernel, rfl⟩
theorem d_L_law_984 : gD m_L_law 984 (.aload_n 2) 1 985 := ⟨by decide +kernel, rfl⟩
theorem d_L_law_985 : gD m_L_law 985 (.aload_n 0) 1 986 := ⟨by decide +kernel, rfl⟩
theorem d_L_law_986 : gD m_L_law 986 (.iload 4) 2 988 := ⟨by decide +kernel, rfl⟩
theorem d_L_law_988 : gD m_L_law 988 (.iconst 1) 1 989 := ⟨by decide +kernel, rfl⟩
theorem d_L_law_989 : gD m_L_law 989 .iadd 1 990 := ⟨by decide +kernel, rfl⟩
theorem d_L_law_990 : gD m_L_law 990 .iaload 1 991 := ⟨by decide +kernel, rfl⟩
theorem d_L_law_991 : gD m_L_law 991 (.invokevirtual 157) 3 994 := ⟨by decide +kernel, rfl⟩
theorem d_L_law_994 : gD m_L_law 994 (.aload_n 2) 1 995 := ⟨by decide +kernel, rfl⟩
theorem d_L_law_995 : gD m_L_law 995 (.invokevirtual 89) 3 998 := ⟨by decide +kernel, rfl⟩
theorem d_L_law_998 : gD m_L_law 998 (.iload 5) 2 1000 := ⟨by decide +kernel, rfl⟩
theorem d_L_law_1000 : gD m_L_law 1000 (.if_icmp .eq 5) 3 1003 := ⟨by decide +kernel, rfl⟩
theorem d_L_law_1003 : gD m_L_law 1003 (.iconst 0) 1 1004 := ⟨by decide +kernel, rfl⟩
theorem d_L_law_1004 : gD m_L_law 1004 .ireturn 1 1005 := ⟨by decide +kernel, rfl⟩
theorem d_L_law_1005 : gD m_L_law 1005 (.goto 122) 3 1008 := ⟨by decide +kernel, rfl⟩
theorem d_L_law_1008 : gD m_L_law 1008 (.aload_n 1) 1 1009 := ⟨by decide +kernel, rfl⟩
theorem d_L_law_1009 : gD m_L_law 1009 (.aload_n 0) 1 1010 := ⟨by decide +kernel, rfl⟩
theorem d_L_law_1010 : gD m_L_law 1010 (.iload 4) 2 1012 := ⟨by decide +kernel, rfl⟩
theorem d_L_law_1012 : gD m_L_law 1012 (.iconst 1) 1 1013 := ⟨by decide +kernel, rfl⟩
theorem d_L_law_1013 : gD m_L_law 1013 .iadd 1 1014 := ⟨by decide +kernel, rfl⟩
theorem d_L_law_1014 : gD m_L_law 1014 .iaload 1 1015 := ⟨by decide +kernel, rfl⟩
theorem d_L_law_1015 : gD m_L_law 1015 (.aload_n 3) 1 1016 := ⟨by decide +kernel, rfl⟩
theorem d_L_law_1016 : gD m_L_law 1016 (.invokestatic 158) 3 1019 := ⟨by decide +kernel, rfl⟩
theorem d_L_law_1019 : gD m_L_law 1019 (.istore 5) 2 1021 := ⟨by decide +kernel, rfl⟩
theorem d_L_law_1021 : gD m_L_law 1021 (.aload_n 2) 1 1022 := ⟨by decide +kernel, rfl⟩
theorem d_L_law_1022 : gD m_L_law 1022 (.aload_n 0) 1 1023 := ⟨by decide +kernel, rfl⟩
theorem d_L_law_1023 : gD m_L_law 1023 (.iload 4) 2 1025 := ⟨by decide +kernel, rfl⟩
theorem d_L_law_1025 : gD m_L_law 1025 (.iconst 1) 1 1026 := ⟨by decide +kernel, rfl⟩
theorem d_L_law_1026 : gD m_L_law 1026 .iadd 1 1027 := ⟨by decide +kernel, rfl⟩
theorem d_L_law_1027 : gD m_L_law 1027 .iaload 1 1028 := ⟨by decide +kernel, rfl⟩
theorem d_L_law_1028 : gD m_L_law 1028 (.invokevirtual 160) 3 1031 := ⟨by decide +kernel, rfl⟩
theorem d_L_law_1031 : gD m_L_law 1031 (.istore 6) 2 1033 := ⟨by decide +kernel, rfl⟩
theorem d_L_law_1033 : gD m_L_law 1033 (.aload_n 2) 1 1034 := ⟨by decide +kernel, rfl⟩
theorem d_L_law_1034 : gD m_L_law 1034 (.invokevirtual 89) 3 1037 := ⟨by decide +kernel, rfl⟩
theorem d_L_law_1037 : gD m_L_law 1037 (.iload 5) 2 1039 := ⟨by decide +kernel, rfl⟩
theorem d_L_law_1039 : gD m_L_law 1039 (.if_icmp .eq 5) 3 1042 := ⟨by decide +kernel, rfl⟩
theorem d_L_law_1042 : gD m_L_law 1042 (.iconst 0) 1 1043 := ⟨by decide +kernel, rfl⟩
theorem d_L_law_1043 : gD m_L_law 1043 .ireturn 1 1044 := ⟨by decide +kernel, rfl⟩
theorem d_L_law_1044 : gD m_L_law 1044 (.iload 5) 2 1046 := ⟨by decide +kernel, rfl⟩
theorem d_L_law_1046 : gD m_L_law 1046 (.ifCond .ne 15) 3 1049 := ⟨by decide +kernel, rfl⟩
theorem d_L_law_1049 : gD m_L_law 1049 (.aload_n 3) 1 1050 := ⟨by decide +kernel, rfl⟩
theorem d_L_law_1050 : gD m_L_law 1050 (.iconst 0) 1 1051 := ⟨by decide +kernel, rfl⟩
theorem d_L_law_1051 : gD m_L_law 1051 .laload 1 1052 := ⟨by decide +kernel, rfl⟩
theorem d_L_law_1052 : gD m_L_law 1052 (.iload 6) 2 1054 := ⟨by decide +kernel, rfl⟩
theorem d_L_law_1054 : gD m_L_law 1054 .i2l 1 1055 := ⟨by decide +kernel, rfl⟩
theorem d_L_law_1055 : gD m_L_law 1055 .lcmp 1 1056 := ⟨by decide +kernel, rfl⟩
theorem d_L_law_1056 : gD m_L_law 1056 (.ifCond .eq 5) 3 1059 := ⟨by decide +kernel, rfl⟩
theorem d_L_law_1059 : gD m_L_law 1059 (.iconst 0) 1 1060 := ⟨by decide +kernel, rfl⟩
theorem d_L_law_1060 : gD m_L_law 1060 .ireturn 1 1061 := ⟨by decide +kernel, rfl⟩
theorem d_L_law_1061 : gD m_L_law 1061 (.goto 66) 3 1064 := ⟨by decide +kernel, rfl⟩
theorem d_L_law_1064 : gD m_L_law 1064 (.aload_n 1) 1 1065 := ⟨by decide +kernel, rfl⟩
theorem d_L_law_1065 : gD m_L_law 1065 (.aload_n 0) 1 1066 := ⟨by decide +kernel, rfl⟩
theorem d_L_law_1066 : gD m_L_law 1066 (.iload 4) 2 1068 := ⟨by decide +kernel, rfl⟩
theorem d_L_law_1068 : gD m_L_law 1068 (.iconst 1) 1 1069 := ⟨by decide +kernel, rfl⟩
theorem d_L_law_1069 : gD m_L_law 1069 .iadd 1 1070 := ⟨by decide +kernel, rfl⟩
theorem d_L_law_1070 : gD m_L_law 1070 .iaload 1 1071 := ⟨by decide +kernel, rfl⟩
theorem d_L_law_1071 : gD m_L_law 1071 (.aload_n 3) 1 1072 := ⟨by decide +kernel, rfl⟩
theorem d_L_law_1072 : gD m_L_law 1072 (.invokestatic 161) 3 1075 := ⟨by decide +kernel, rfl⟩
theorem d_L_law_1075 : gD m_L_law 1075 (.istore 5) 2 1077 := ⟨by decide +kernel, rfl⟩
theorem d_L_law_1077 : gD m_L_law 1077 (.aload_n 2) 1 1078 := ⟨by decide +kernel, rfl⟩
theorem d_L_law_1078 : gD m_L_law 1078 (.aload_n 0) 1 1079 := ⟨by decide +kernel, rfl⟩
theorem d_L_law_1079 : gD m_L_law 1079 (.iload 4) 2 1081 := ⟨by decide +kernel, rfl⟩
theorem d_L_law_1081 : gD m_L_law 1081 (.iconst 1) 1 1082 := ⟨by decide +kernel, rfl⟩
theorem d_L_law_1082 : gD m_L_law 1082 .iadd 1 1083 := ⟨by decide +kernel, rfl⟩
theorem d_L_law_1083 : gD m_L_law 1083 .iaload 1 1084 := ⟨by decide +kernel, rfl⟩
theorem d_L_law_1084 : gD m_L_law 1084 (.invokevirtual 163) 3 1087 := ⟨by decide +kernel, rfl⟩
theorem d_L_law_1087 : gD m_L_law 1087 (.istore 6) 2 1089 := ⟨by decide +kernel, rfl⟩
theorem d_L_law_1089 : gD m_L_law 1089 (.aload_n 2) 1 1090 := ⟨by decide +kernel, rfl⟩
theorem d_L_law_1090 : gD m_L_law 1090 (.invokevirtual 89) 3 1093 := ⟨by decide +kernel, rfl⟩
theorem d_L_law_1093 : gD m_L_law 1093 (.iload 5) 2 1095 := ⟨by decide +kernel, rfl⟩
theorem d_L_law_1095 : gD m_L_law 1095 (.if_icmp .eq 5) 3 1098 := ⟨by decide +kernel, rfl⟩
theorem d_L_law_1098 : gD m_L_law 1098 (.iconst 0) 1 1099 := ⟨by decide +kernel, rfl⟩
theorem d_L_law_1099 : gD m_L_law 1099 .ireturn 1 1100 := ⟨by decide +kernel, rfl⟩
theorem d_L_law_1100 : gD m_L_law 1100 (.iload 5) 2 1102 := ⟨by decide +kernel, rfl⟩
theorem d_L_law_1102 : gD m_L_law 1102 (.ifCond .ne 22) 3 1105 := ⟨by decide +kernel, rfl⟩
theorem d_L_law_1105 : gD m_L_law 1105 (.aload_n 3) 1 1106 := ⟨by decide +kernel, rfl⟩
theorem d_L_law_1106 : gD m_L_law 1106 (.iconst 0) 1 1107 := ⟨by decide +kernel, rfl⟩
theorem d_L_law_1107 : gD m_L_law 1107 .laload 1 1108 := ⟨by decide +kernel, rfl⟩
theorem d_L_law_1108 : gD m_L_law 1108 (.iload 6) 2 1110 := ⟨by decide +kernel, rfl⟩
theorem d_L_law_1110 : gD m_L_law 1110 (.ifCond .eq 7) 3 1113 := ⟨by decide +kernel, rfl⟩
theorem d_L_law_1113 : gD m_L_law 1113 (.lconst 1) 1 1114 := ⟨by decide +kernel, rfl⟩
theorem d_L_law_1114 : gD m_L_law 1114 (.goto 4) 3 1117 := ⟨by decide +kernel, rfl⟩
theorem d_L_law_1117 : gD m_L_law 1117 (.lconst 0) 1 1118 := ⟨by decide +kernel, rfl⟩
theorem d_L_law_1118 : gD m_L_law 1118 .lcmp 1 1119 := ⟨by decide +kernel, rfl⟩
theorem d_L_law_1119 : gD m_L_law 1119 (.ifCond .eq 5) 3 1122 := ⟨by decide +kernel, rfl⟩
theorem d_L_law_1122 : gD m_L_law 1122 (.iconst 0) 1 1123 := ⟨by decide +kernel, rfl⟩
theorem d_L_law_1123 : gD m_L_law 1123 .ireturn 1 1124 := ⟨by decide +kernel, rfl⟩
theorem d_L_law_1124 : gD m_L_law 1124 (.goto 3) 3 1127 := ⟨by decide +kernel, rfl⟩
theorem d_L_law_1127 : gD m_L_law 1127 (.iinc 4 5) 3 1130 := ⟨by decide +kernel, rfl⟩
theorem d_L_law_1130 : gD m_L_law 1130 (.goto (-1097)) 3 1133 := ⟨by decide +kernel, rfl⟩
theorem d_L_law_1133 : gD m_L_law 1133 (.iconst 1) 1 1134 := ⟨by decide +kernel, rfl⟩
theorem d_L_law_1134 : gD m_L_law 1134 .ireturn 1 1135 := ⟨by decide +kernel, rfl⟩
end
section
/-! words of the tables, by their places (wip/emit.py) -/
theorem ws_A : ∀ w ∈ u_ws "SelfArranger" T_A 14, w ∈ gTW := by decide +kernel
theorem ws_T : ∀ w ∈ u_ws "SelfArranger$Table" T_T 4, w ∈ gTW := by decide +kernel
theorem ws_C : ∀ w ∈ u_ws "SelfArranger$Conditions" T_C 3, w ∈ gTW := by decide +kernel
theorem ws_S : ∀ w ∈ u_ws "SelfArranger$Stretch" T_S 6, w ∈ gTW := by decide +kernel
theorem ws_W : ∀ w ∈ u_ws "SelfArranger$WayCosts" T_W 2, w ∈ gTW := by decide +kernel
theorem ws_P : ∀ w ∈ u_ws "SelfArranger$Pool" T_P 5, w ∈ gTW := by decide +kernel
theorem ws_D : ∀ w ∈ u_ws "SelfArranger$Ledger" T_D 3, w ∈ gTW := by decide +kernel
theorem ws_V : ∀ w ∈ u_ws "SelfArranger$Adviser" T_V 3, w ∈ gTW := by decide +kernel
theorem ws_B : ∀ w ∈ u_ws "SelfArranger$Builder" T_B 5, w ∈ gTW := by decide +kernel
theorem ws_R : ∀ w ∈ u_ws "SelfArranger$RowList" T_R 2, w ∈ gTW := by decide +kernel
theorem ws_H : ∀ w ∈ u_ws "SelfArranger$Shape" T_H 3, w ∈ gTW := by decide +kernel
theorem ws_M : ∀ w ∈ u_ws "SelfArrangerModel" T_M 34, w ∈ gTW := by decide +kernel
theorem w_36 : (Cond.fieldLink "SelfArranger$Table" (9 : Nat) "SelfArranger$Table" "values" "[I") ∈ gTW := gTW_in 36 (by decide +kernel) (by decide +kernel)
theorem w_37 : (Cond.fieldLink "SelfArranger$Table" (15 : Nat) "SelfArranger$Table" "there" "[Z") ∈ gTW := gTW_in 37 (by decide +kernel) (by decide +kernel)
theorem w_38 : (Cond.fieldLinkNest "SelfArranger$Stretch" (60 : Nat) "SelfArranger$Table" "there" "[Z" "SelfArranger") ∈ gTW := gTW_in 38 (by decide +kernel) (by decide +kernel)
theorem w_39 : (Cond.fieldLinkNest "SelfArranger" (277 : Nat) "SelfArranger$Table" "there" "[Z" "SelfArranger") ∈ gTW := gTW_in 39 (by decide +kernel) (by decide +kernel)
theorem w_40 : (Cond.fieldLink "SelfArranger$Table" (19 : Nat) "SelfArranger$Table" "inserted" "I") ∈ gTW := gTW_in 40 (by decide +kernel) (by decide +kernel)
theorem w_41 : (Cond.fieldLinkNest "SelfArranger$Stretch" (55 : Nat) "SelfArranger$Table" "inserted" "I" "SelfArranger") ∈ gTW := gTW_in 41 (by decide +kernel) (by decide +kernel)
theorem w_42 : (Cond.fieldLinkNest "SelfArranger$Builder" (36 : Nat) "SelfArranger$Table" "inserted" "I" "SelfArranger") ∈ gTW := gTW_in 42 (by decide +kernel) (by decide +kernel)
theorem w_43 : (Cond.fieldLinkNest "SelfArranger" (274 : Nat) "SelfArranger$Table" "inserted" "I" "SelfArranger") ∈ gTW := gTW_in 43 (by decide +kernel) (by decide +kernel)
theorem w_44 : (Cond.fieldLink "SelfArranger$Table" (27 : Nat) "SelfArranger$Table" "rowsThere" "I") ∈ gTW := gTW_in 44 (by decide +kernel) (by decide +kernel)
theorem w_62 : (Cond.fieldLink "SelfArranger$Conditions" (9 : Nat) "SelfArranger$Conditions" "kinds" "[I") ∈ gTW := gTW_in 62 (by decide +kernel) (by decide +kernel)
theorem w_63 : (Cond.fieldLinkNest "SelfArranger$Stretch" (36 : Nat) "SelfArranger$Conditions" "kinds" "[I" "SelfArranger") ∈ gTW := gTW_in 63 (by decide +kernel) (by decide +kernel)
theorem w_64 : (Cond.fieldLink "SelfArranger$Conditions" (15 : Nat) "SelfArranger$Conditions" "froms" "[I") ∈ gTW := gTW_in 64 (by decide +kernel) (by decide +kernel)
theorem w_65 : (Cond.fieldLinkNest "SelfArranger$Stretch" (83 : Nat) "SelfArranger$Conditions" "froms" "[I" "SelfArranger") ∈ gTW := gTW_in 65 (by decide +kernel) (by decide +kernel)
theorem w_66 : (Cond.fieldLink "SelfArranger$Conditions" (18 : Nat) "SelfArranger$Conditions" "tos" "[I") ∈ gTW := gTW_in 66 (by decide +kernel) (by decide +kernel)
theorem w_86 : (Cond.fieldLink "SelfArranger$RowList" (9 : Nat) "SelfArranger$RowList" "rows" "[I") ∈ gTW := gTW_in 86 (by decide +kernel) (by decide +kernel)
theorem w_87 : (Cond.fieldLinkNest "SelfArranger" (160 : Nat) "SelfArranger$RowList" "rows" "[I" "SelfArranger") ∈ gTW := gTW_in 87 (by decide +kernel) (by decide +kernel)
theorem w_88 : (Cond.fieldLink "SelfArranger$RowList" (15 : Nat) "SelfArranger$RowList" "count" "I") ∈ gTW := gTW_in 88 (by decide +kernel) (by decide +kernel)
theorem w_89 : (Cond.fieldLinkNest "SelfArranger$Stretch" (52 : Nat) "SelfArranger$RowList" "count" "I" "SelfArranger") ∈ gTW := gTW_in 89 (by decide +kernel) (by decide +kernel)
theorem w_90 : (Cond.fieldLinkNest "SelfArranger" (152 : Nat) "SelfArranger$RowList" "count" "I" "SelfArranger") ∈ gTW := gTW_in 90 (by decide +kernel) (by decide +kernel)
theorem w_96 : (Cond.fieldLink "SelfArranger$Stretch" (18 : Nat) "SelfArranger$Stretch" "table" "LSelfArranger$Table;") ∈ gTW := gTW_in 96 (by decide +kernel) (by decide +kernel)
theorem w_97 : (Cond.fieldLink "SelfArranger$Stretch" (12 : Nat) "SelfArranger$Stretch" "entries" "LSelfArranger$RowList;") ∈ gTW := gTW_in 97 (by decide +kernel) (by decide +kernel)
theorem w_98 : (Cond.fieldLinkNest "SelfArranger" (326 : Nat) "SelfArranger$Stretch" "entries" "LSelfArranger$RowList;" "SelfArranger") ∈ gTW := gTW_in 98 (by decide +kernel) (by decide +kernel)
theorem w_99 : (Cond.fieldLink "SelfArranger$Stretch" (26 : Nat) "SelfArranger$Stretch" "first" "I") ∈ gTW := gTW_in 99 (by decide +kernel) (by decide +kernel)
theorem w_100 : (Cond.fieldLink "SelfArranger$Stretch" (33 : Nat) "SelfArranger$Stretch" "second" "I") ∈ gTW := gTW_in 100 (by decide +kernel) (by decide +kernel)
theorem w_101 : (Cond.fieldLink "SelfArranger$Stretch" (45 : Nat) "SelfArranger$Stretch" "secondCounts" "Z") ∈ gTW := gTW_in 101 (by decide +kernel) (by decide +kernel)
theorem w_102 : (Cond.fieldLink "SelfArranger$Stretch" (49 : Nat) "SelfArranger$Stretch" "before" "I") ∈ gTW := gTW_in 102 (by decide +kernel) (by decide +kernel)
theorem w_122 : (Cond.fieldLink "SelfArranger$WayCosts" (9 : Nat) "SelfArranger$WayCosts" "byIndex" "[I") ∈ gTW := gTW_in 122 (by decide +kernel) (by decide +kernel)
theorem w_123 : (Cond.fieldLink "SelfArranger$WayCosts" (21 : Nat) "SelfArranger$WayCosts" "heap" "I") ∈ gTW := gTW_in 123 (by decide +kernel) (by decide +kernel)
theorem w_141 : (Cond.fieldLink "SelfArranger$Pool" (20 : Nat) "SelfArranger$Pool" "pages" "[I") ∈ gTW := gTW_in 141 (by decide +kernel) (by decide +kernel)
theorem w_142 : (Cond.fieldLink "SelfArranger$Pool" (24 : Nat) "SelfArranger$Pool" "marked" "[Z") ∈ gTW := gTW_in 142 (by decide +kernel) (by decide +kernel)
theorem w_143 : (Cond.fieldLink "SelfArranger$Pool" (43 : Nat) "SelfArranger$Pool" "hand" "I") ∈ gTW := gTW_in 143 (by decide +kernel) (by decide +kernel)
theorem w_144 : (Cond.fieldLink "SelfArranger$Pool" (28 : Nat) "SelfArranger$Pool" "touched" "I") ∈ gTW := gTW_in 144 (by decide +kernel) (by decide +kernel)
theorem w_145 : (Cond.fieldLinkNest "SelfArranger" (167 : Nat) "SelfArranger$Pool" "touched" "I" "SelfArranger") ∈ gTW := gTW_in 145 (by decide +kernel) (by decide +kernel)
theorem w_146 : (Cond.fieldLink "SelfArranger$Pool" (32 : Nat) "SelfArranger$Pool" "misses" "I") ∈ gTW := gTW_in 146 (by decide +kernel) (by decide +kernel)
theorem w_147 : (Cond.fieldLinkNest "SelfArranger" (170 : Nat) "SelfArranger$Pool" "misses" "I" "SelfArranger") ∈ gTW := gTW_in 147 (by decide +kernel) (by decide +kernel)
theorem w_176 : (Cond.fieldLink "SelfArranger$Shape" (10 : Nat) "SelfArranger$Shape" "kept" "LSelfArranger$Conditions;") ∈ gTW := gTW_in 176 (by decide +kernel) (by decide +kernel)
theorem w_177 : (Cond.fieldLinkNest "SelfArranger$Adviser" (39 : Nat) "SelfArranger$Shape" "kept" "LSelfArranger$Conditions;" "SelfArranger") ∈ gTW := gTW_in 177 (by decide +kernel) (by decide +kernel)
theorem w_178 : (Cond.fieldLinkNest "SelfArranger$Ledger" (33 : Nat) "SelfArranger$Shape" "kept" "LSelfArranger$Conditions;" "SelfArranger") ∈ gTW := gTW_in 178 (by decide +kernel) (by decide +kernel)
theorem w_179 : (Cond.fieldLinkNest "SelfArranger" (218 : Nat) "SelfArranger$Shape" "kept" "LSelfArranger$Conditions;" "SelfArranger") ∈ gTW := gTW_in 179 (by decide +kernel) (by decide +kernel)
theorem w_180 : (Cond.fieldLink "SelfArranger$Shape" (19 : Nat) "SelfArranger$Shape" "wayCosts" "LSelfArranger$WayCosts;") ∈ gTW := gTW_in 180 (by decide +kernel) (by decide +kernel)
theorem w_181 : (Cond.fieldLinkNest "SelfArranger$Adviser" (33 : Nat) "SelfArranger$Shape" "wayCosts" "LSelfArranger$WayCosts;" "SelfArranger") ∈ gTW := gTW_in 181 (by decide +kernel) (by decide +kernel)
theorem w_182 : (Cond.fieldLinkNest "SelfArranger" (224 : Nat) "SelfArranger$Shape" "wayCosts" "LSelfArranger$WayCosts;" "SelfArranger") ∈ gTW := gTW_in 182 (by decide +kernel) (by decide +kernel)
theorem w_183 : (Cond.fieldLinkNest "SelfArranger$Ledger" (30 : Nat) "SelfArranger$Shape" "weight" "I" "SelfArranger") ∈ gTW := gTW_in 183 (by decide +kernel) (by decide +kernel)
theorem w_184 : (Cond.fieldLinkNest "SelfArranger$Adviser" (49 : Nat) "SelfArranger$Shape" "weight" "I" "SelfArranger") ∈ gTW := gTW_in 184 (by decide +kernel) (by decide +kernel)
theorem w_185 : (Cond.fieldLinkNest "SelfArranger" (213 : Nat) "SelfArranger$Shape" "weight" "I" "SelfArranger") ∈ gTW := gTW_in 185 (by decide +kernel) (by decide +kernel)
theorem w_193 : (Cond.fieldLink "SelfArranger$Ledger" (11 : Nat) "SelfArranger$Ledger" "shapes" "[LSelfArranger$Shape;") ∈ gTW := gTW_in 193 (by decide +kernel) (by decide +kernel)
theorem w_194 : (Cond.fieldLinkNest "SelfArranger$Adviser" (29 : Nat) "SelfArranger$Ledger" "shapes" "[LSelfArranger$Shape;" "SelfArranger") ∈ gTW := gTW_in 194 (by decide +kernel) (by decide +kernel)
theorem w_195 : (Cond.fieldLinkNest "SelfArranger" (209 : Nat) "SelfArranger$Ledger" "shapes" "[LSelfArranger$Shape;" "SelfArranger") ∈ gTW := gTW_in 195 (by decide +kernel) (by decide +kernel)
theorem w_196 : (Cond.fieldLinkNest "SelfArranger$Adviser" (23 : Nat) "SelfArranger$Ledger" "count" "I" "SelfArranger") ∈ gTW := gTW_in 196 (by decide +kernel) (by decide +kernel)
theorem w_197 : (Cond.fieldLink "SelfArranger$Ledger" (26 : Nat) "SelfArranger$Ledger" "count" "I") ∈ gTW := gTW_in 197 (by decide +kernel) (by decide +kernel)
theorem w_198 : (Cond.fieldLinkNest "SelfArranger" (206 : Nat) "SelfArranger$Ledger" "count" "I" "SelfArranger") ∈ gTW := gTW_in 198 (by decide +kernel) (by decide +kernel)
theorem w_199 : (Cond.fieldLinkNest "SelfArranger$Adviser" (56 : Nat) "SelfArranger$Ledger" "changesWeight" "I" "SelfArranger") ∈ gTW := gTW_in 199 (by decide +kernel) (by decide +kernel)
theorem w_200 : (Cond.fieldLink "SelfArranger$Ledger" (41 : Nat) "SelfArranger$Ledger" "changesWeight" "I") ∈ gTW := gTW_in 200 (by decide +kernel) (by decide +kernel)
theorem w_201 : (Cond.fieldLinkNest "SelfArranger" (233 : Nat) "SelfArranger$Ledger" "changesWeight" "I" "SelfArranger") ∈ gTW := gTW_in 201 (by decide +kernel) (by decide +kernel)
theorem w_215 : (Cond.fieldLink "SelfArranger$Adviser" (9 : Nat) "SelfArranger$Adviser" "table" "LSelfArranger$Table;") ∈ gTW := gTW_in 215 (by decide +kernel) (by decide +kernel)
theorem w_216 : (Cond.fieldLink "SelfArranger$Adviser" (15 : Nat) "SelfArranger$Adviser" "stretch" "LSelfArranger$Stretch;") ∈ gTW := gTW_in 216 (by decide +kernel) (by decide +kernel)
theorem w_217 : (Cond.fieldLink "SelfArranger$Adviser" (19 : Nat) "SelfArranger$Adviser" "ledger" "LSelfArranger$Ledger;") ∈ gTW := gTW_in 217 (by decide +kernel) (by decide +kernel)
theorem w_231 : (Cond.fieldLink "SelfArranger$Builder" (15 : Nat) "SelfArranger$Builder" "table" "LSelfArranger$Table;") ∈ gTW := gTW_in 231 (by decide +kernel) (by decide +kernel)
theorem w_232 : (Cond.fieldLink "SelfArranger$Builder" (9 : Nat) "SelfArranger$Builder" "states" "[I") ∈ gTW := gTW_in 232 (by decide +kernel) (by decide +kernel)
theorem w_233 : (Cond.fieldLinkNest "SelfArranger" (185 : Nat) "SelfArranger$Builder" "states" "[I" "SelfArranger") ∈ gTW := gTW_in 233 (by decide +kernel) (by decide +kernel)
theorem w_234 : (Cond.fieldLink "SelfArranger$Builder" (19 : Nat) "SelfArranger$Builder" "building" "I") ∈ gTW := gTW_in 234 (by decide +kernel) (by decide +kernel)
theorem w_235 : (Cond.fieldLink "SelfArranger$Builder" (23 : Nat) "SelfArranger$Builder" "handled" "I") ∈ gTW := gTW_in 235 (by decide +kernel) (by decide +kernel)
theorem w_236 : (Cond.fieldLink "SelfArranger$Builder" (26 : Nat) "SelfArranger$Builder" "sideLength" "I") ∈ gTW := gTW_in 236 (by decide +kernel) (by decide +kernel)
theorem w_250 : (Cond.fieldLink "SelfArranger" (12 : Nat) "SelfArranger" "table" "LSelfArranger$Table;") ∈ gTW := gTW_in 250 (by decide +kernel) (by decide +kernel)
theorem w_251 : (Cond.fieldLink "SelfArranger" (19 : Nat) "SelfArranger" "conditions" "LSelfArranger$Conditions;") ∈ gTW := gTW_in 251 (by decide +kernel) (by decide +kernel)
theorem w_252 : (Cond.fieldLink "SelfArranger" (28 : Nat) "SelfArranger" "stretch" "LSelfArranger$Stretch;") ∈ gTW := gTW_in 252 (by decide +kernel) (by decide +kernel)
theorem w_253 : (Cond.fieldLink "SelfArranger" (35 : Nat) "SelfArranger" "wayCosts" "LSelfArranger$WayCosts;") ∈ gTW := gTW_in 253 (by decide +kernel) (by decide +kernel)
theorem w_254 : (Cond.fieldLink "SelfArranger" (44 : Nat) "SelfArranger" "pool" "LSelfArranger$Pool;") ∈ gTW := gTW_in 254 (by decide +kernel) (by decide +kernel)
theorem w_255 : (Cond.fieldLink "SelfArranger" (51 : Nat) "SelfArranger" "ledger" "LSelfArranger$Ledger;") ∈ gTW := gTW_in 255 (by decide +kernel) (by decide +kernel)
theorem w_256 : (Cond.fieldLink "SelfArranger" (60 : Nat) "SelfArranger" "adviser" "LSelfArranger$Adviser;") ∈ gTW := gTW_in 256 (by decide +kernel) (by decide +kernel)
theorem w_257 : (Cond.fieldLink "SelfArranger" (67 : Nat) "SelfArranger" "builder" "LSelfArranger$Builder;") ∈ gTW := gTW_in 257 (by decide +kernel) (by decide +kernel)
theorem w_258 : (Cond.fieldLink "SelfArranger" (74 : Nat) "SelfArranger" "found" "LSelfArranger$RowList;") ∈ gTW := gTW_in 258 (by decide +kernel) (by decide +kernel)
theorem w_259 : (Cond.fieldLink "SelfArranger" (78 : Nat) "SelfArranger" "orderColumn" "I") ∈ gTW := gTW_in 259 (by decide +kernel) (by decide +kernel)
theorem w_260 : (Cond.fieldLink "SelfArranger" (82 : Nat) "SelfArranger" "rowLimit" "I") ∈ gTW := gTW_in 260 (by decide +kernel) (by decide +kernel)
theorem w_261 : (Cond.fieldLink "SelfArranger" (85 : Nat) "SelfArranger" "budgetPages" "I") ∈ gTW := gTW_in 261 (by decide +kernel) (by decide +kernel)
theorem w_262 : (Cond.fieldLink "SelfArranger" (88 : Nat) "SelfArranger" "lastWay" "I") ∈ gTW := gTW_in 262 (by decide +kernel) (by decide +kernel)
theorem w_263 : (Cond.fieldLink "SelfArranger" (164 : Nat) "SelfArranger" "lastCost" "I") ∈ gTW := gTW_in 263 (by decide +kernel) (by decide +kernel)
theorem w_312 : (Cond.fieldLinkNest "SelfArranger$WayCosts" (25 : Nat) "SelfArranger" "FIRST_COLUMN" "[I" "SelfArranger") ∈ gTW := gTW_in 312 (by decide +kernel) (by decide +kernel)
theorem w_322 : (Cond.fieldLinkNest "SelfArranger$Stretch" (22 : Nat) "SelfArranger" "FIRST_COLUMN" "[I" "SelfArranger") ∈ gTW := gTW_in 322 (by decide +kernel) (by decide +kernel)
theorem w_323 : (Cond.fieldLinkNest "SelfArranger$Stretch" (30 : Nat) "SelfArranger" "SECOND_COLUMN" "[I" "SelfArranger") ∈ gTW := gTW_in 323 (by decide +kernel) (by decide +kernel)
theorem w_601 : (Cond.fieldLink "java/lang/Throwable" (198 : Nat) "java/lang/Throwable" "backtrace" "Ljava/lang/Object;") ∈ gTW := gTW_in 601 (by decide +kernel) (by decide +kernel)
theorem w_572 : (Cond.fieldLink "java/lang/Throwable" (13 : Nat) "java/lang/Throwable" "UNASSIGNED_STACK" "[Ljava/lang/StackTraceElement;") ∈ gTW := gTW_in 572 (by decide +kernel) (by decide +kernel)
theorem w_574 : (Cond.fieldLink "java/lang/Throwable" (20 : Nat) "java/lang/Throwable" "SUPPRESSED_SENTINEL" "Ljava/util/List;") ∈ gTW := gTW_in 574 (by decide +kernel) (by decide +kernel)
theorem w_602 : (Cond.fieldLink "java/lang/Throwable" (31 : Nat) "java/lang/Throwable" "detailMessage" "Ljava/lang/String;") ∈ gTW := gTW_in 602 (by decide +kernel) (by decide +kernel)
theorem w_603 : (Cond.fieldLink "java/lang/Throwable" (7 : Nat) "java/lang/Throwable" "cause" "Ljava/lang/Throwable;") ∈ gTW := gTW_in 603 (by decide +kernel) (by decide +kernel)
theorem w_604 : (Cond.fieldLink "java/lang/Throwable" (17 : Nat) "java/lang/Throwable" "stackTrace" "[Ljava/lang/StackTraceElement;") ∈ gTW := gTW_in 604 (by decide +kernel) (by decide +kernel)
theorem w_605 : (Cond.fieldLink "java/lang/Throwable" (24 : Nat) "java/lang/Throwable" "suppressedExceptions" "Ljava/util/List;") ∈ gTW := gTW_in 605 (by decide +kernel) (by decide +kernel)
theorem w_763 : (Cond.fieldLink "SelfArranger" (195 : Nat) "SelfArranger" "FIRST_COLUMN" "[I") ∈ gTW := gTW_in 763 (by decide +kernel) (by decide +kernel)
theorem w_764 : (Cond.fieldLink "SelfArranger" (198 : Nat) "SelfArranger" "SECOND_COLUMN" "[I") ∈ gTW := gTW_in 764 (by decide +kernel) (by decide +kernel)
theorem w_867 : (Cond.fieldLink "SelfArrangerModel" (72 : Nat) "SelfArrangerModel" "thrown" "I") ∈ gTW := gTW_in 867 (by decide +kernel) (by decide +kernel)
theorem w_868 : (Cond.fieldLink "SelfArrangerModel" (75 : Nat) "SelfArrangerModel" "inserted" "I") ∈ gTW := gTW_in 868 (by decide +kernel) (by decide +kernel)
theorem w_869 : (Cond.fieldLink "SelfArrangerModel" (7 : Nat) "SelfArrangerModel" "there" "[Z") ∈ gTW := gTW_in 869 (by decide +kernel) (by decide +kernel)
theorem w_870 : (Cond.fieldLink "SelfArrangerModel" (13 : Nat) "SelfArrangerModel" "values" "[I") ∈ gTW := gTW_in 870 (by decide +kernel) (by decide +kernel)
theorem w_871 : (Cond.fieldLink "SelfArrangerModel" (17 : Nat) "SelfArrangerModel" "firstColumn" "[I") ∈ gTW := gTW_in 871 (by decide +kernel) (by decide +kernel)
theorem w_872 : (Cond.fieldLink "SelfArrangerModel" (20 : Nat) "SelfArrangerModel" "secondColumn" "[I") ∈ gTW := gTW_in 872 (by decide +kernel) (by decide +kernel)
theorem w_873 : (Cond.fieldLink "SelfArrangerModel" (23 : Nat) "SelfArrangerModel" "state" "[I") ∈ gTW := gTW_in 873 (by decide +kernel) (by decide +kernel)
theorem w_874 : (Cond.fieldLink "SelfArrangerModel" (26 : Nat) "SelfArrangerModel" "building" "I") ∈ gTW := gTW_in 874 (by decide +kernel) (by decide +kernel)
theorem w_875 : (Cond.fieldLink "SelfArrangerModel" (81 : Nat) "SelfArrangerModel" "handled" "I") ∈ gTW := gTW_in 875 (by decide +kernel) (by decide +kernel)
theorem w_876 : (Cond.fieldLink "SelfArrangerModel" (84 : Nat) "SelfArrangerModel" "side" "I") ∈ gTW := gTW_in 876 (by decide +kernel) (by decide +kernel)
theorem w_877 : (Cond.fieldLink "SelfArrangerModel" (30 : Nat) "SelfArrangerModel" "kinds" "[I") ∈ gTW := gTW_in 877 (by decide +kernel) (by decide +kernel)
theorem w_878 : (Cond.fieldLink "SelfArrangerModel" (33 : Nat) "SelfArrangerModel" "froms" "[I") ∈ gTW := gTW_in 878 (by decide +kernel) (by decide +kernel)
theorem w_879 : (Cond.fieldLink "SelfArrangerModel" (36 : Nat) "SelfArrangerModel" "tos" "[I") ∈ gTW := gTW_in 879 (by decide +kernel) (by decide +kernel)
theorem w_880 : (Cond.fieldLink "SelfArrangerModel" (39 : Nat) "SelfArrangerModel" "orderColumn" "I") ∈ gTW := gTW_in 880 (by decide +kernel) (by decide +kernel)
theorem w_881 : (Cond.fieldLink "SelfArrangerModel" (42 : Nat) "SelfArrangerModel" "limit" "I") ∈ gTW := gTW_in 881 (by decide +kernel) (by decide +kernel)
theorem w_882 : (Cond.fieldLink "SelfArrangerModel" (187 : Nat) "SelfArrangerModel" "shapes" "I") ∈ gTW := gTW_in 882 (by decide +kernel) (by decide +kernel)
theorem w_883 : (Cond.fieldLink "SelfArrangerModel" (45 : Nat) "SelfArrangerModel" "weights" "[I") ∈ gTW := gTW_in 883 (by decide +kernel) (by decide +kernel)
theorem w_884 : (Cond.fieldLink "SelfArrangerModel" (78 : Nat) "SelfArrangerModel" "changes" "I") ∈ gTW := gTW_in 884 (by decide +kernel) (by decide +kernel)
theorem w_885 : (Cond.fieldLink "SelfArrangerModel" (48 : Nat) "SelfArrangerModel" "budget" "I") ∈ gTW := gTW_in 885 (by decide +kernel) (by decide +kernel)
theorem w_886 : (Cond.fieldLink "SelfArrangerModel" (69 : Nat) "SelfArrangerModel" "frames" "I") ∈ gTW := gTW_in 886 (by decide +kernel) (by decide +kernel)
theorem w_887 : (Cond.fieldLink "SelfArrangerModel" (51 : Nat) "SelfArrangerModel" "pages" "[I") ∈ gTW := gTW_in 887 (by decide +kernel) (by decide +kernel)
theorem w_888 : (Cond.fieldLink "SelfArrangerModel" (54 : Nat) "SelfArrangerModel" "marked" "[Z") ∈ gTW := gTW_in 888 (by decide +kernel) (by decide +kernel)
theorem w_889 : (Cond.fieldLink "SelfArrangerModel" (177 : Nat) "SelfArrangerModel" "hand" "I") ∈ gTW := gTW_in 889 (by decide +kernel) (by decide +kernel)
theorem w_890 : (Cond.fieldLink "SelfArrangerModel" (57 : Nat) "SelfArrangerModel" "answer" "[I") ∈ gTW := gTW_in 890 (by decide +kernel) (by decide +kernel)
theorem w_891 : (Cond.fieldLink "SelfArrangerModel" (208 : Nat) "SelfArrangerModel" "answered" "I") ∈ gTW := gTW_in 891 (by decide +kernel) (by decide +kernel)
theorem w_892 : (Cond.fieldLink "SelfArrangerModel" (60 : Nat) "SelfArrangerModel" "lastWay" "I") ∈ gTW := gTW_in 892 (by decide +kernel) (by decide +kernel)
theorem w_893 : (Cond.fieldLink "SelfArrangerModel" (202 : Nat) "SelfArrangerModel" "lastCost" "I") ∈ gTW := gTW_in 893 (by decide +kernel) (by decide +kernel)
theorem w_894 : (Cond.fieldLink "SelfArrangerModel" (171 : Nat) "SelfArrangerModel" "touches" "I") ∈ gTW := gTW_in 894 (by decide +kernel) (by decide +kernel)
theorem w_895 : (Cond.fieldLink "SelfArrangerModel" (174 : Nat) "SelfArrangerModel" "misses" "I") ∈ gTW := gTW_in 895 (by decide +kernel) (by decide +kernel)
theorem w_896 : (Cond.fieldLink "SelfArrangerModel" (63 : Nat) "SelfArrangerModel" "entries" "[I") ∈ gTW := gTW_in 896 (by decide +kernel) (by decide +kernel)
theorem w_897 : (Cond.fieldLink "SelfArrangerModel" (105 : Nat) "SelfArrangerModel" "size" "I") ∈ gTW := gTW_in 897 (by decide +kernel) (by decide +kernel)
theorem w_898 : (Cond.fieldLink "SelfArrangerModel" (144 : Nat) "SelfArrangerModel" "begin" "I") ∈ gTW := gTW_in 898 (by decide +kernel) (by decide +kernel)
theorem w_899 : (Cond.fieldLink "SelfArrangerModel" (150 : Nat) "SelfArrangerModel" "end" "I") ∈ gTW := gTW_in 899 (by decide +kernel) (by decide +kernel)
theorem w_900 : (Cond.fieldLink "SelfArrangerModel" (66 : Nat) "SelfArrangerModel" "costs" "[I") ∈ gTW := gTW_in 900 (by decide +kernel) (by decide +kernel)
theorem w_24 : (Cond.methodLink "SelfArrangerLaw" (80 : Nat) ({ cls := "SelfArranger", name := "<init>", desc := "(I)V" } : MethodName)) ∈ gTW := gTW_in 24 (by decide +kernel) (by decide +kernel)
theorem w_27 : (Cond.methodLink "SelfArranger" (3 : Nat) ({ cls := "java/lang/Object", name := "<init>", desc := "()V" } : MethodName)) ∈ gTW := gTW_in 27 (by decide +kernel) (by decide +kernel)
theorem w_32 : (Cond.methodLinkNest "SelfArranger" (11 : Nat) ({ cls := "SelfArranger$Table", name := "<init>", desc := "()V" } : MethodName) "SelfArranger") ∈ gTW := gTW_in 32 (by decide +kernel) (by decide +kernel)
theorem w_35 : (Cond.methodLink "SelfArranger$Table" (3 : Nat) ({ cls := "java/lang/Object", name := "<init>", desc := "()V" } : MethodName)) ∈ gTW := gTW_in 35 (by decide +kernel) (by decide +kernel)
theorem w_58 : (Cond.methodLinkNest "SelfArranger" (18 : Nat) ({ cls := "SelfArranger$Conditions", name := "<init>", desc := "()V" } : MethodName) "SelfArranger") ∈ gTW := gTW_in 58 (by decide +kernel) (by decide +kernel)
theorem w_61 : (Cond.methodLink "SelfArranger$Conditions" (3 : Nat) ({ cls := "java/lang/Object", name := "<init>", desc := "()V" } : MethodName)) ∈ gTW := gTW_in 61 (by decide +kernel) (by decide +kernel)
theorem w_76 : (Cond.methodLinkNest "SelfArranger" (25 : Nat) ({ cls := "SelfArranger$Stretch", name := "<init>", desc := "(LSelfArranger$Table;)V" } : MethodName) "SelfArranger") ∈ gTW := gTW_in 76 (by decide +kernel) (by decide +kernel)
theorem w_79 : (Cond.methodLink "SelfArranger$Stretch" (3 : Nat) ({ cls := "java/lang/Object", name := "<init>", desc := "()V" } : MethodName)) ∈ gTW := gTW_in 79 (by decide +kernel) (by decide +kernel)
theorem w_82 : (Cond.methodLinkNest "SelfArranger$Stretch" (11 : Nat) ({ cls := "SelfArranger$RowList", name := "<init>", desc := "()V" } : MethodName) "SelfArranger") ∈ gTW := gTW_in 82 (by decide +kernel) (by decide +kernel)
theorem w_85 : (Cond.methodLink "SelfArranger$RowList" (3 : Nat) ({ cls := "java/lang/Object", name := "<init>", desc := "()V" } : MethodName)) ∈ gTW := gTW_in 85 (by decide +kernel) (by decide +kernel)
theorem w_118 : (Cond.methodLinkNest "SelfArranger" (34 : Nat) ({ cls := "SelfArranger$WayCosts", name := "<init>", desc := "()V" } : MethodName) "SelfArranger") ∈ gTW := gTW_in 118 (by decide +kernel) (by decide +kernel)
theorem w_121 : (Cond.methodLink "SelfArranger$WayCosts" (3 : Nat) ({ cls := "java/lang/Object", name := "<init>", desc := "()V" } : MethodName)) ∈ gTW := gTW_in 121 (by decide +kernel) (by decide +kernel)
theorem w_131 : (Cond.methodLinkNest "SelfArranger" (41 : Nat) ({ cls := "SelfArranger$Pool", name := "<init>", desc := "(I)V" } : MethodName) "SelfArranger") ∈ gTW := gTW_in 131 (by decide +kernel) (by decide +kernel)
theorem w_134 : (Cond.methodLink "SelfArranger$Pool" (3 : Nat) ({ cls := "java/lang/Object", name := "<init>", desc := "()V" } : MethodName)) ∈ gTW := gTW_in 134 (by decide +kernel) (by decide +kernel)
theorem w_135 : (Cond.methodLink "SelfArranger$Pool" (11 : Nat) ({ cls := "java/lang/Math", name := "min", desc := "(II)I" } : MethodName)) ∈ gTW := gTW_in 135 (by decide +kernel) (by decide +kernel)
theorem w_138 : (Cond.methodLink "SelfArranger$Pool" (17 : Nat) ({ cls := "java/lang/Math", name := "max", desc := "(II)I" } : MethodName)) ∈ gTW := gTW_in 138 (by decide +kernel) (by decide +kernel)
theorem w_161 : (Cond.methodLinkNest "SelfArranger" (50 : Nat) ({ cls := "SelfArranger$Ledger", name := "<init>", desc := "()V" } : MethodName) "SelfArranger") ∈ gTW := gTW_in 161 (by decide +kernel) (by decide +kernel)
theorem w_164 : (Cond.methodLink "SelfArranger$Ledger" (1 : Nat) ({ cls := "java/lang/Object", name := "<init>", desc := "()V" } : MethodName)) ∈ gTW := gTW_in 164 (by decide +kernel) (by decide +kernel)
theorem w_168 : (Cond.methodLinkNest "SelfArranger$Ledger" (15 : Nat) ({ cls := "SelfArranger$Shape", name := "<init>", desc := "()V" } : MethodName) "SelfArranger") ∈ gTW := gTW_in 168 (by decide +kernel) (by decide +kernel)
theorem w_171 : (Cond.methodLink "SelfArranger$Shape" (1 : Nat) ({ cls := "java/lang/Object", name := "<init>", desc := "()V" } : MethodName)) ∈ gTW := gTW_in 171 (by decide +kernel) (by decide +kernel)
theorem w_173 : (Cond.methodLinkNest "SelfArranger$Shape" (9 : Nat) ({ cls := "SelfArranger$Conditions", name := "<init>", desc := "()V" } : MethodName) "SelfArranger") ∈ gTW := gTW_in 173 (by decide +kernel) (by decide +kernel)
theorem w_175 : (Cond.methodLinkNest "SelfArranger$Shape" (18 : Nat) ({ cls := "SelfArranger$WayCosts", name := "<init>", desc := "()V" } : MethodName) "SelfArranger") ∈ gTW := gTW_in 175 (by decide +kernel) (by decide +kernel)
theorem w_211 : (Cond.methodLinkNest "SelfArranger" (57 : Nat) ({ cls := "SelfArranger$Adviser", name := "<init>", desc := "(LSelfArranger$Table;LSelfArranger$Stretch;LSelfArranger$Ledger;)V" } : MethodName) "SelfArranger") ∈ gTW := gTW_in 211 (by decide +kernel) (by decide +kernel)
theorem w_214 : (Cond.methodLink "SelfArranger$Adviser" (3 : Nat) ({ cls := "java/lang/Object", name := "<init>", desc := "()V" } : MethodName)) ∈ gTW := gTW_in 214 (by decide +kernel) (by decide +kernel)
theorem w_227 : (Cond.methodLinkNest "SelfArranger" (66 : Nat) ({ cls := "SelfArranger$Builder", name := "<init>", desc := "(LSelfArranger$Table;)V" } : MethodName) "SelfArranger") ∈ gTW := gTW_in 227 (by decide +kernel) (by decide +kernel)
theorem w_230 : (Cond.methodLink "SelfArranger$Builder" (3 : Nat) ({ cls := "java/lang/Object", name := "<init>", desc := "()V" } : MethodName)) ∈ gTW := gTW_in 230 (by decide +kernel) (by decide +kernel)
theorem w_249 : (Cond.methodLinkNest "SelfArranger" (73 : Nat) ({ cls := "SelfArranger$RowList", name := "<init>", desc := "()V" } : MethodName) "SelfArranger") ∈ gTW := gTW_in 249 (by decide +kernel) (by decide +kernel)
theorem w_293 : (Cond.methodLink "SelfArrangerLaw" (113 : Nat) ({ cls := "SelfArranger", name := "ask", desc := "()I" } : MethodName)) ∈ gTW := gTW_in 293 (by decide +kernel) (by decide +kernel)
theorem w_297 : (Cond.methodLink "SelfArranger" (139 : Nat) ({ cls := "SelfArranger", name := "takeCheapestWay", desc := "()V" } : MethodName)) ∈ gTW := gTW_in 297 (by decide +kernel) (by decide +kernel)
theorem w_301 : (Cond.methodLinkNest "SelfArranger" (178 : Nat) ({ cls := "SelfArranger$WayCosts", name := "measure", desc := "(LSelfArranger$Table;LSelfArranger$Stretch;LSelfArranger$Conditions;)V" } : MethodName) "SelfArranger") ∈ gTW := gTW_in 301 (by decide +kernel) (by decide +kernel)
theorem w_305 : (Cond.methodLinkNest "SelfArranger$WayCosts" (15 : Nat) ({ cls := "SelfArranger$Table", name := "heapPages", desc := "()I" } : MethodName) "SelfArranger") ∈ gTW := gTW_in 305 (by decide +kernel) (by decide +kernel)
theorem w_309 : (Cond.methodLinkNest "SelfArranger$Table" (30 : Nat) ({ cls := "SelfArranger", name := "groupsOfFour", desc := "(I)I" } : MethodName) "SelfArranger") ∈ gTW := gTW_in 309 (by decide +kernel) (by decide +kernel)
theorem w_314 : (Cond.methodLinkNest "SelfArranger$WayCosts" (28 : Nat) ({ cls := "SelfArranger$Conditions", name := "binds", desc := "(I)Z" } : MethodName) "SelfArranger") ∈ gTW := gTW_in 314 (by decide +kernel) (by decide +kernel)
theorem w_318 : (Cond.methodLinkNest "SelfArranger$WayCosts" (34 : Nat) ({ cls := "SelfArranger$Stretch", name := "lay", desc := "(LSelfArranger$Conditions;I)V" } : MethodName) "SelfArranger") ∈ gTW := gTW_in 318 (by decide +kernel) (by decide +kernel)
theorem w_325 : (Cond.methodLinkNest "SelfArranger$Stretch" (41 : Nat) ({ cls := "SelfArranger$Conditions", name := "binds", desc := "(I)Z" } : MethodName) "SelfArranger") ∈ gTW := gTW_in 325 (by decide +kernel) (by decide +kernel)
theorem w_326 : (Cond.methodLink "SelfArranger$Stretch" (64 : Nat) ({ cls := "SelfArranger$Stretch", name := "place", desc := "(LSelfArranger$Conditions;I)V" } : MethodName)) ∈ gTW := gTW_in 326 (by decide +kernel) (by decide +kernel)
theorem w_330 : (Cond.methodLink "SelfArranger$Stretch" (68 : Nat) ({ cls := "SelfArranger$Stretch", name := "isBefore", desc := "(LSelfArranger$Conditions;I)Z" } : MethodName)) ∈ gTW := gTW_in 330 (by decide +kernel) (by decide +kernel)
theorem w_334 : (Cond.methodLinkNest "SelfArranger$Stretch" (79 : Nat) ({ cls := "SelfArranger$Table", name := "at", desc := "(II)I" } : MethodName) "SelfArranger") ∈ gTW := gTW_in 334 (by decide +kernel) (by decide +kernel)
theorem w_338 : (Cond.methodLink "SelfArranger$Stretch" (72 : Nat) ({ cls := "SelfArranger$Stretch", name := "isInside", desc := "(LSelfArranger$Conditions;I)Z" } : MethodName)) ∈ gTW := gTW_in 338 (by decide +kernel) (by decide +kernel)
theorem w_342 : (Cond.methodLinkNest "SelfArranger$Stretch" (86 : Nat) ({ cls := "SelfArranger$Conditions", name := "fit", desc := "(II)Z" } : MethodName) "SelfArranger") ∈ gTW := gTW_in 342 (by decide +kernel) (by decide +kernel)
theorem w_346 : (Cond.methodLinkNest "SelfArranger$Stretch" (75 : Nat) ({ cls := "SelfArranger$RowList", name := "append", desc := "(I)V" } : MethodName) "SelfArranger") ∈ gTW := gTW_in 346 (by decide +kernel) (by decide +kernel)
theorem w_350 : (Cond.methodLinkNest "SelfArranger$WayCosts" (40 : Nat) ({ cls := "SelfArranger$Stretch", name := "pages", desc := "()I" } : MethodName) "SelfArranger") ∈ gTW := gTW_in 350 (by decide +kernel) (by decide +kernel)
theorem w_354 : (Cond.methodLinkNest "SelfArranger$Stretch" (103 : Nat) ({ cls := "SelfArranger$Table", name := "indexHeight", desc := "()I" } : MethodName) "SelfArranger") ∈ gTW := gTW_in 354 (by decide +kernel) (by decide +kernel)
theorem w_358 : (Cond.methodLink "SelfArranger$Table" (40 : Nat) ({ cls := "SelfArranger$Table", name := "indexLeaves", desc := "()I" } : MethodName)) ∈ gTW := gTW_in 358 (by decide +kernel) (by decide +kernel)
theorem w_362 : (Cond.methodLink "SelfArranger$Table" (34 : Nat) ({ cls := "java/lang/Math", name := "max", desc := "(II)I" } : MethodName)) ∈ gTW := gTW_in 362 (by decide +kernel) (by decide +kernel)
theorem w_363 : (Cond.methodLink "SelfArranger$Stretch" (106 : Nat) ({ cls := "SelfArranger$Stretch", name := "leaves", desc := "()I" } : MethodName)) ∈ gTW := gTW_in 363 (by decide +kernel) (by decide +kernel)
theorem w_367 : (Cond.methodLinkNest "SelfArranger" (225 : Nat) ({ cls := "SelfArranger$Builder", name := "readySet", desc := "()I" } : MethodName) "SelfArranger") ∈ gTW := gTW_in 367 (by decide +kernel) (by decide +kernel)
theorem w_371 : (Cond.methodLinkNest "SelfArranger" (292 : Nat) ({ cls := "SelfArranger$WayCosts", name := "cheapest", desc := "(I)I" } : MethodName) "SelfArranger") ∈ gTW := gTW_in 371 (by decide +kernel) (by decide +kernel)
theorem w_375 : (Cond.methodLink "SelfArranger$WayCosts" (43 : Nat) ({ cls := "SelfArranger$WayCosts", name := "at", desc := "(I)I" } : MethodName)) ∈ gTW := gTW_in 375 (by decide +kernel) (by decide +kernel)
theorem w_379 : (Cond.methodLinkNest "SelfArranger" (182 : Nat) ({ cls := "SelfArranger$WayCosts", name := "at", desc := "(I)I" } : MethodName) "SelfArranger") ∈ gTW := gTW_in 379 (by decide +kernel) (by decide +kernel)
theorem w_380 : (Cond.methodLink "SelfArranger" (142 : Nat) ({ cls := "SelfArranger", name := "touchPages", desc := "()V" } : MethodName)) ∈ gTW := gTW_in 380 (by decide +kernel) (by decide +kernel)
theorem w_384 : (Cond.methodLinkNest "SelfArranger" (295 : Nat) ({ cls := "SelfArranger$Pool", name := "countAnew", desc := "()V" } : MethodName) "SelfArranger") ∈ gTW := gTW_in 384 (by decide +kernel) (by decide +kernel)
theorem w_388 : (Cond.methodLink "SelfArranger" (298 : Nat) ({ cls := "SelfArranger", name := "touchHeap", desc := "()V" } : MethodName)) ∈ gTW := gTW_in 388 (by decide +kernel) (by decide +kernel)
theorem w_392 : (Cond.methodLinkNest "SelfArranger" (304 : Nat) ({ cls := "SelfArranger$Table", name := "heapPages", desc := "()I" } : MethodName) "SelfArranger") ∈ gTW := gTW_in 392 (by decide +kernel) (by decide +kernel)
theorem w_393 : (Cond.methodLinkNest "SelfArranger" (307 : Nat) ({ cls := "SelfArranger$Pool", name := "touch", desc := "(III)V" } : MethodName) "SelfArranger") ∈ gTW := gTW_in 393 (by decide +kernel) (by decide +kernel)
theorem w_397 : (Cond.methodLink "SelfArranger$Pool" (35 : Nat) ({ cls := "SelfArranger$Pool", name := "frameOf", desc := "(I)I" } : MethodName)) ∈ gTW := gTW_in 397 (by decide +kernel) (by decide +kernel)
theorem w_401 : (Cond.methodLink "SelfArranger$Pool" (39 : Nat) ({ cls := "SelfArranger$Pool", name := "freeFrame", desc := "()I" } : MethodName)) ∈ gTW := gTW_in 401 (by decide +kernel) (by decide +kernel)
theorem w_405 : (Cond.methodLink "SelfArranger$Pool" (46 : Nat) ({ cls := "SelfArranger$Pool", name := "moveHand", desc := "()V" } : MethodName)) ∈ gTW := gTW_in 405 (by decide +kernel) (by decide +kernel)
theorem w_409 : (Cond.methodLink "SelfArranger" (301 : Nat) ({ cls := "SelfArranger", name := "touchIndex", desc := "(I)V" } : MethodName)) ∈ gTW := gTW_in 409 (by decide +kernel) (by decide +kernel)
theorem w_413 : (Cond.methodLinkNest "SelfArranger" (310 : Nat) ({ cls := "SelfArranger$Stretch", name := "lay", desc := "(LSelfArranger$Conditions;I)V" } : MethodName) "SelfArranger") ∈ gTW := gTW_in 413 (by decide +kernel) (by decide +kernel)
theorem w_414 : (Cond.methodLinkNest "SelfArranger" (314 : Nat) ({ cls := "SelfArranger$Stretch", name := "firstLeaf", desc := "()I" } : MethodName) "SelfArranger") ∈ gTW := gTW_in 414 (by decide +kernel) (by decide +kernel)
theorem w_418 : (Cond.methodLinkNest "SelfArranger$Stretch" (94 : Nat) ({ cls := "SelfArranger$Table", name := "indexLeaves", desc := "()I" } : MethodName) "SelfArranger") ∈ gTW := gTW_in 418 (by decide +kernel) (by decide +kernel)
theorem w_419 : (Cond.methodLink "SelfArranger$Stretch" (98 : Nat) ({ cls := "java/lang/Math", name := "min", desc := "(II)I" } : MethodName)) ∈ gTW := gTW_in 419 (by decide +kernel) (by decide +kernel)
theorem w_420 : (Cond.methodLinkNest "SelfArranger" (188 : Nat) ({ cls := "SelfArranger$Table", name := "indexHeight", desc := "()I" } : MethodName) "SelfArranger") ∈ gTW := gTW_in 420 (by decide +kernel) (by decide +kernel)
theorem w_421 : (Cond.methodLink "SelfArranger" (317 : Nat) ({ cls := "SelfArranger", name := "nodeAbove", desc := "(II)I" } : MethodName)) ∈ gTW := gTW_in 421 (by decide +kernel) (by decide +kernel)
theorem w_424 : (Cond.methodLinkNest "SelfArranger" (320 : Nat) ({ cls := "SelfArranger$Stretch", name := "leaves", desc := "()I" } : MethodName) "SelfArranger") ∈ gTW := gTW_in 424 (by decide +kernel) (by decide +kernel)
theorem w_425 : (Cond.methodLinkNest "SelfArranger" (323 : Nat) ({ cls := "SelfArranger$Stretch", name := "sort", desc := "()V" } : MethodName) "SelfArranger") ∈ gTW := gTW_in 425 (by decide +kernel) (by decide +kernel)
theorem w_429 : (Cond.methodLinkNest "SelfArranger$Stretch" (90 : Nat) ({ cls := "SelfArranger$RowList", name := "sort", desc := "(LSelfArranger$Table;II)V" } : MethodName) "SelfArranger") ∈ gTW := gTW_in 429 (by decide +kernel) (by decide +kernel)
theorem w_433 : (Cond.methodLinkNest "SelfArranger$RowList" (19 : Nat) ({ cls := "SelfArranger$Table", name := "isAfter", desc := "(IIII)Z" } : MethodName) "SelfArranger") ∈ gTW := gTW_in 433 (by decide +kernel) (by decide +kernel)
theorem w_437 : (Cond.methodLink "SelfArranger$Table" (51 : Nat) ({ cls := "SelfArranger$Table", name := "compare", desc := "(III)I" } : MethodName)) ∈ gTW := gTW_in 437 (by decide +kernel) (by decide +kernel)
theorem w_441 : (Cond.methodLink "SelfArranger$Table" (55 : Nat) ({ cls := "SelfArranger$Table", name := "at", desc := "(II)I" } : MethodName)) ∈ gTW := gTW_in 441 (by decide +kernel) (by decide +kernel)
theorem w_442 : (Cond.methodLink "SelfArranger$Table" (58 : Nat) ({ cls := "java/lang/Integer", name := "compare", desc := "(II)I" } : MethodName)) ∈ gTW := gTW_in 442 (by decide +kernel) (by decide +kernel)
theorem w_445 : (Cond.methodLink "SelfArranger" (145 : Nat) ({ cls := "SelfArranger", name := "findAnswer", desc := "()V" } : MethodName)) ∈ gTW := gTW_in 445 (by decide +kernel) (by decide +kernel)
theorem w_449 : (Cond.methodLinkNest "SelfArranger" (329 : Nat) ({ cls := "SelfArranger$Conditions", name := "fitRow", desc := "(LSelfArranger$Table;I)Z" } : MethodName) "SelfArranger") ∈ gTW := gTW_in 449 (by decide +kernel) (by decide +kernel)
theorem w_453 : (Cond.methodLinkNest "SelfArranger$Conditions" (25 : Nat) ({ cls := "SelfArranger$Table", name := "at", desc := "(II)I" } : MethodName) "SelfArranger") ∈ gTW := gTW_in 453 (by decide +kernel) (by decide +kernel)
theorem w_454 : (Cond.methodLink "SelfArranger$Conditions" (31 : Nat) ({ cls := "SelfArranger$Conditions", name := "fit", desc := "(II)Z" } : MethodName)) ∈ gTW := gTW_in 454 (by decide +kernel) (by decide +kernel)
theorem w_455 : (Cond.methodLinkNest "SelfArranger" (333 : Nat) ({ cls := "SelfArranger$RowList", name := "append", desc := "(I)V" } : MethodName) "SelfArranger") ∈ gTW := gTW_in 455 (by decide +kernel) (by decide +kernel)
theorem w_456 : (Cond.methodLinkNest "SelfArranger" (336 : Nat) ({ cls := "SelfArranger$RowList", name := "sort", desc := "(LSelfArranger$Table;II)V" } : MethodName) "SelfArranger") ∈ gTW := gTW_in 456 (by decide +kernel) (by decide +kernel)
theorem w_457 : (Cond.methodLink "SelfArranger" (339 : Nat) ({ cls := "java/lang/Math", name := "min", desc := "(II)I" } : MethodName)) ∈ gTW := gTW_in 457 (by decide +kernel) (by decide +kernel)
theorem w_458 : (Cond.methodLinkNest "SelfArranger" (148 : Nat) ({ cls := "SelfArranger$Ledger", name := "noteQuery", desc := "(LSelfArranger$Conditions;)V" } : MethodName) "SelfArranger") ∈ gTW := gTW_in 458 (by decide +kernel) (by decide +kernel)
theorem w_462 : (Cond.methodLinkNest "SelfArranger$Ledger" (16 : Nat) ({ cls := "SelfArranger$Conditions", name := "kindsCode", desc := "()I" } : MethodName) "SelfArranger") ∈ gTW := gTW_in 462 (by decide +kernel) (by decide +kernel)
theorem w_466 : (Cond.methodLink "SelfArranger$Ledger" (22 : Nat) ({ cls := "SelfArranger$Ledger", name := "placeOf", desc := "(I)I" } : MethodName)) ∈ gTW := gTW_in 466 (by decide +kernel) (by decide +kernel)
theorem w_470 : (Cond.methodLinkNest "SelfArranger$Ledger" (37 : Nat) ({ cls := "SelfArranger$Conditions", name := "copy", desc := "(LSelfArranger$Conditions;)V" } : MethodName) "SelfArranger") ∈ gTW := gTW_in 470 (by decide +kernel) (by decide +kernel)
theorem w_474 : (Cond.methodLink "SelfArranger$Conditions" (21 : Nat) ({ cls := "SelfArranger$Conditions", name := "put", desc := "(IIII)V" } : MethodName)) ∈ gTW := gTW_in 474 (by decide +kernel) (by decide +kernel)
theorem w_478 : (Cond.methodLink "SelfArrangerLaw" (130 : Nat) ({ cls := "SelfArranger", name := "shapes", desc := "()I" } : MethodName)) ∈ gTW := gTW_in 478 (by decide +kernel) (by decide +kernel)
theorem w_482 : (Cond.methodLink "SelfArrangerLaw" (137 : Nat) ({ cls := "SelfArranger", name := "changes", desc := "()I" } : MethodName)) ∈ gTW := gTW_in 482 (by decide +kernel) (by decide +kernel)
theorem w_486 : (Cond.methodLink "SelfArrangerLaw" (141 : Nat) ({ cls := "SelfArranger", name := "period", desc := "()I" } : MethodName)) ∈ gTW := gTW_in 486 (by decide +kernel) (by decide +kernel)
theorem w_490 : (Cond.methodLinkNest "SelfArranger" (236 : Nat) ({ cls := "SelfArranger$Ledger", name := "fade", desc := "()V" } : MethodName) "SelfArranger") ∈ gTW := gTW_in 490 (by decide +kernel) (by decide +kernel)
theorem w_494 : (Cond.methodLink "SelfArranger$Ledger" (44 : Nat) ({ cls := "SelfArranger$Ledger", name := "threeQuarters", desc := "(I)I" } : MethodName)) ∈ gTW := gTW_in 494 (by decide +kernel) (by decide +kernel)
theorem w_497 : (Cond.methodLink "SelfArrangerLaw" (148 : Nat) ({ cls := "SelfArranger", name := "choose", desc := "()I" } : MethodName)) ∈ gTW := gTW_in 497 (by decide +kernel) (by decide +kernel)
theorem w_501 : (Cond.methodLinkNest "SelfArranger" (241 : Nat) ({ cls := "SelfArranger$Adviser", name := "measure", desc := "()V" } : MethodName) "SelfArranger") ∈ gTW := gTW_in 501 (by decide +kernel) (by decide +kernel)
theorem w_505 : (Cond.methodLinkNest "SelfArranger$Adviser" (43 : Nat) ({ cls := "SelfArranger$WayCosts", name := "measure", desc := "(LSelfArranger$Table;LSelfArranger$Stretch;LSelfArranger$Conditions;)V" } : MethodName) "SelfArranger") ∈ gTW := gTW_in 505 (by decide +kernel) (by decide +kernel)
theorem w_506 : (Cond.methodLinkNest "SelfArranger" (243 : Nat) ({ cls := "SelfArranger$Adviser", name := "bestSet", desc := "(I)I" } : MethodName) "SelfArranger") ∈ gTW := gTW_in 506 (by decide +kernel) (by decide +kernel)
theorem w_510 : (Cond.methodLinkNest "SelfArranger$Adviser" (70 : Nat) ({ cls := "SelfArranger$Table", name := "indexSize", desc := "()I" } : MethodName) "SelfArranger") ∈ gTW := gTW_in 510 (by decide +kernel) (by decide +kernel)
theorem w_514 : (Cond.methodLink "SelfArranger$Table" (44 : Nat) ({ cls := "SelfArranger$Table", name := "indexHeight", desc := "()I" } : MethodName)) ∈ gTW := gTW_in 514 (by decide +kernel) (by decide +kernel)
theorem w_515 : (Cond.methodLink "SelfArranger$Adviser" (73 : Nat) ({ cls := "SelfArranger$Adviser", name := "setCost", desc := "(I)J" } : MethodName)) ∈ gTW := gTW_in 515 (by decide +kernel) (by decide +kernel)
theorem w_519 : (Cond.methodLinkNest "SelfArranger$Adviser" (52 : Nat) ({ cls := "SelfArranger$WayCosts", name := "least", desc := "(I)I" } : MethodName) "SelfArranger") ∈ gTW := gTW_in 519 (by decide +kernel) (by decide +kernel)
theorem w_523 : (Cond.methodLink "SelfArranger$WayCosts" (47 : Nat) ({ cls := "SelfArranger$WayCosts", name := "cheapest", desc := "(I)I" } : MethodName)) ∈ gTW := gTW_in 523 (by decide +kernel) (by decide +kernel)
theorem w_524 : (Cond.methodLinkNest "SelfArranger$Adviser" (59 : Nat) ({ cls := "SelfArranger$Table", name := "indexHeight", desc := "()I" } : MethodName) "SelfArranger") ∈ gTW := gTW_in 524 (by decide +kernel) (by decide +kernel)
theorem w_525 : (Cond.methodLink "SelfArranger$Adviser" (65 : Nat) ({ cls := "java/lang/Integer", name := "bitCount", desc := "(I)I" } : MethodName)) ∈ gTW := gTW_in 525 (by decide +kernel) (by decide +kernel)
theorem w_531 : (Cond.methodLink "SelfArrangerLaw" (74 : Nat) ({ cls := "SelfArrangerLaw", name := "cell", desc := "([II)I" } : MethodName)) ∈ gTW := gTW_in 531 (by decide +kernel) (by decide +kernel)
theorem w_534 : (Cond.methodLink "SelfArrangerLaw" (85 : Nat) ({ cls := "SelfArrangerLaw", name := "insert", desc := "(LSelfArranger;III[J)I" } : MethodName)) ∈ gTW := gTW_in 534 (by decide +kernel) (by decide +kernel)
theorem w_539 : (Cond.methodLink "SelfArrangerLaw" (7 : Nat) ({ cls := "SelfArranger", name := "insert", desc := "(III)I" } : MethodName)) ∈ gTW := gTW_in 539 (by decide +kernel) (by decide +kernel)
theorem w_543 : (Cond.methodLink "SelfArranger" (91 : Nat) ({ cls := "SelfArranger", name := "requireValue", desc := "(I)V" } : MethodName)) ∈ gTW := gTW_in 543 (by decide +kernel) (by decide +kernel)
theorem w_571 : (Cond.methodLink "java/lang/Throwable" (1 : Nat) ({ cls := "java/lang/Object", name := "<init>", desc := "()V" } : MethodName)) ∈ gTW := gTW_in 571 (by decide +kernel) (by decide +kernel)
theorem w_576 : (Cond.methodLink "java/lang/Throwable" (27 : Nat) ({ cls := "java/lang/Throwable", name := "fillInStackTrace", desc := "()Ljava/lang/Throwable;" } : MethodName)) ∈ gTW := gTW_in 576 (by decide +kernel) (by decide +kernel)
theorem w_583 : (Cond.methodLink "java/lang/Throwable" (202 : Nat) ({ cls := "java/lang/Throwable", name := "fillInStackTrace", desc := "(I)Ljava/lang/Throwable;" } : MethodName)) ∈ gTW := gTW_in 583 (by decide +kernel) (by decide +kernel)
theorem w_589 : (Cond.methodLink "SelfArranger" (133 : Nat) ({ cls := "java/lang/IllegalArgumentException", name := "<init>", desc := "(Ljava/lang/String;)V" } : MethodName)) ∈ gTW := gTW_in 589 (by decide +kernel) (by decide +kernel)
theorem w_592 : (Cond.methodLink "java/lang/IllegalArgumentException" (7 : Nat) ({ cls := "java/lang/RuntimeException", name := "<init>", desc := "(Ljava/lang/String;)V" } : MethodName)) ∈ gTW := gTW_in 592 (by decide +kernel) (by decide +kernel)
theorem w_595 : (Cond.methodLink "java/lang/RuntimeException" (7 : Nat) ({ cls := "java/lang/Exception", name := "<init>", desc := "(Ljava/lang/String;)V" } : MethodName)) ∈ gTW := gTW_in 595 (by decide +kernel) (by decide +kernel)
theorem w_598 : (Cond.methodLink "java/lang/Exception" (7 : Nat) ({ cls := "java/lang/Throwable", name := "<init>", desc := "(Ljava/lang/String;)V" } : MethodName)) ∈ gTW := gTW_in 598 (by decide +kernel) (by decide +kernel)
theorem w_615 : (Cond.methodLinkNest "SelfArranger" (94 : Nat) ({ cls := "SelfArranger$Table", name := "isFull", desc := "()Z" } : MethodName) "SelfArranger") ∈ gTW := gTW_in 615 (by decide +kernel) (by decide +kernel)
theorem w_629 : (Cond.methodLink "SelfArranger" (102 : Nat) ({ cls := "java/lang/UnsupportedOperationException", name := "<init>", desc := "(Ljava/lang/String;)V" } : MethodName)) ∈ gTW := gTW_in 629 (by decide +kernel) (by decide +kernel)
theorem w_632 : (Cond.methodLink "java/lang/UnsupportedOperationException" (7 : Nat) ({ cls := "java/lang/RuntimeException", name := "<init>", desc := "(Ljava/lang/String;)V" } : MethodName)) ∈ gTW := gTW_in 632 (by decide +kernel) (by decide +kernel)
theorem w_635 : (Cond.methodLinkNest "SelfArranger" (105 : Nat) ({ cls := "SelfArranger$Table", name := "add", desc := "(III)I" } : MethodName) "SelfArranger") ∈ gTW := gTW_in 635 (by decide +kernel) (by decide +kernel)
theorem w_639 : (Cond.methodLink "SelfArranger$Table" (23 : Nat) ({ cls := "SelfArranger$Table", name := "put", desc := "(III)V" } : MethodName)) ∈ gTW := gTW_in 639 (by decide +kernel) (by decide +kernel)
theorem w_643 : (Cond.methodLink "SelfArranger" (109 : Nat) ({ cls := "SelfArranger", name := "noteChange", desc := "(I)V" } : MethodName)) ∈ gTW := gTW_in 643 (by decide +kernel) (by decide +kernel)
theorem w_647 : (Cond.methodLinkNest "SelfArranger" (289 : Nat) ({ cls := "SelfArranger$Ledger", name := "noteChange", desc := "()V" } : MethodName) "SelfArranger") ∈ gTW := gTW_in 647 (by decide +kernel) (by decide +kernel)
theorem w_651 : (Cond.methodLinkNest "SelfArranger" (291 : Nat) ({ cls := "SelfArranger$Builder", name := "noteChange", desc := "(I)V" } : MethodName) "SelfArranger") ∈ gTW := gTW_in 651 (by decide +kernel) (by decide +kernel)
theorem w_655 : (Cond.methodLink "SelfArranger$Builder" (32 : Nat) ({ cls := "SelfArranger$Builder", name := "isBusy", desc := "()Z" } : MethodName)) ∈ gTW := gTW_in 655 (by decide +kernel) (by decide +kernel)
theorem w_659 : (Cond.methodLink "SelfArrangerLaw" (93 : Nat) ({ cls := "SelfArrangerLaw", name := "delete", desc := "(LSelfArranger;I)I" } : MethodName)) ∈ gTW := gTW_in 659 (by decide +kernel) (by decide +kernel)
theorem w_663 : (Cond.methodLink "SelfArrangerLaw" (17 : Nat) ({ cls := "SelfArranger", name := "delete", desc := "(I)V" } : MethodName)) ∈ gTW := gTW_in 663 (by decide +kernel) (by decide +kernel)
theorem w_667 : (Cond.methodLink "SelfArranger" (112 : Nat) ({ cls := "SelfArranger", name := "requireRow", desc := "(I)V" } : MethodName)) ∈ gTW := gTW_in 667 (by decide +kernel) (by decide +kernel)
theorem w_681 : (Cond.methodLink "SelfArranger" (159 : Nat) ({ cls := "java/lang/IndexOutOfBoundsException", name := "<init>", desc := "(Ljava/lang/String;)V" } : MethodName)) ∈ gTW := gTW_in 681 (by decide +kernel) (by decide +kernel)
theorem w_684 : (Cond.methodLink "java/lang/IndexOutOfBoundsException" (7 : Nat) ({ cls := "java/lang/RuntimeException", name := "<init>", desc := "(Ljava/lang/String;)V" } : MethodName)) ∈ gTW := gTW_in 684 (by decide +kernel) (by decide +kernel)
theorem w_687 : (Cond.methodLinkNest "SelfArranger" (115 : Nat) ({ cls := "SelfArranger$Table", name := "remove", desc := "(I)V" } : MethodName) "SelfArranger") ∈ gTW := gTW_in 687 (by decide +kernel) (by decide +kernel)
theorem w_691 : (Cond.methodLink "SelfArrangerLaw" (97 : Nat) ({ cls := "SelfArrangerLaw", name := "change", desc := "(LSelfArranger;III)I" } : MethodName)) ∈ gTW := gTW_in 691 (by decide +kernel) (by decide +kernel)
theorem w_694 : (Cond.methodLink "SelfArrangerLaw" (23 : Nat) ({ cls := "SelfArranger", name := "change", desc := "(III)V" } : MethodName)) ∈ gTW := gTW_in 694 (by decide +kernel) (by decide +kernel)
theorem w_698 : (Cond.methodLink "SelfArranger" (118 : Nat) ({ cls := "SelfArranger", name := "requireColumn", desc := "(I)V" } : MethodName)) ∈ gTW := gTW_in 698 (by decide +kernel) (by decide +kernel)
theorem w_702 : (Cond.methodLinkNest "SelfArranger" (121 : Nat) ({ cls := "SelfArranger$Table", name := "put", desc := "(III)V" } : MethodName) "SelfArranger") ∈ gTW := gTW_in 702 (by decide +kernel) (by decide +kernel)
theorem w_703 : (Cond.methodLink "SelfArrangerLaw" (101 : Nat) ({ cls := "SelfArrangerLaw", name := "value", desc := "(LSelfArranger;II[J)I" } : MethodName)) ∈ gTW := gTW_in 703 (by decide +kernel) (by decide +kernel)
theorem w_706 : (Cond.methodLink "SelfArrangerLaw" (27 : Nat) ({ cls := "SelfArranger", name := "value", desc := "(II)I" } : MethodName)) ∈ gTW := gTW_in 706 (by decide +kernel) (by decide +kernel)
theorem w_710 : (Cond.methodLinkNest "SelfArranger" (125 : Nat) ({ cls := "SelfArranger$Table", name := "at", desc := "(II)I" } : MethodName) "SelfArranger") ∈ gTW := gTW_in 710 (by decide +kernel) (by decide +kernel)
theorem w_711 : (Cond.methodLink "SelfArrangerLaw" (105 : Nat) ({ cls := "SelfArrangerLaw", name := "where", desc := "(LSelfArranger;IIII)I" } : MethodName)) ∈ gTW := gTW_in 711 (by decide +kernel) (by decide +kernel)
theorem w_714 : (Cond.methodLink "SelfArrangerLaw" (31 : Nat) ({ cls := "SelfArranger", name := "where", desc := "(IIII)V" } : MethodName)) ∈ gTW := gTW_in 714 (by decide +kernel) (by decide +kernel)
theorem w_719 : (Cond.methodLinkNest "SelfArranger" (134 : Nat) ({ cls := "SelfArranger$Conditions", name := "put", desc := "(IIII)V" } : MethodName) "SelfArranger") ∈ gTW := gTW_in 719 (by decide +kernel) (by decide +kernel)
theorem w_720 : (Cond.methodLink "SelfArrangerLaw" (109 : Nat) ({ cls := "SelfArrangerLaw", name := "order", desc := "(LSelfArranger;II)I" } : MethodName)) ∈ gTW := gTW_in 720 (by decide +kernel) (by decide +kernel)
theorem w_723 : (Cond.methodLink "SelfArrangerLaw" (35 : Nat) ({ cls := "SelfArranger", name := "order", desc := "(II)V" } : MethodName)) ∈ gTW := gTW_in 723 (by decide +kernel) (by decide +kernel)
theorem w_728 : (Cond.methodLink "SelfArrangerLaw" (117 : Nat) ({ cls := "SelfArrangerLaw", name := "answer", desc := "(LSelfArranger;I[J)I" } : MethodName)) ∈ gTW := gTW_in 728 (by decide +kernel) (by decide +kernel)
theorem w_731 : (Cond.methodLink "SelfArrangerLaw" (39 : Nat) ({ cls := "SelfArranger", name := "answer", desc := "(I)I" } : MethodName)) ∈ gTW := gTW_in 731 (by decide +kernel) (by decide +kernel)
theorem w_736 : (Cond.methodLink "SelfArrangerLaw" (121 : Nat) ({ cls := "SelfArrangerLaw", name := "last", desc := "(LSelfArranger;I[J)I" } : MethodName)) ∈ gTW := gTW_in 736 (by decide +kernel) (by decide +kernel)
theorem w_739 : (Cond.methodLink "SelfArrangerLaw" (43 : Nat) ({ cls := "SelfArranger", name := "last", desc := "(I)I" } : MethodName)) ∈ gTW := gTW_in 739 (by decide +kernel) (by decide +kernel)
theorem w_744 : (Cond.methodLink "SelfArrangerLaw" (124 : Nat) ({ cls := "SelfArrangerLaw", name := "cost", desc := "(LSelfArranger;I[J)I" } : MethodName)) ∈ gTW := gTW_in 744 (by decide +kernel) (by decide +kernel)
theorem w_747 : (Cond.methodLink "SelfArrangerLaw" (46 : Nat) ({ cls := "SelfArranger", name := "cost", desc := "(I)I" } : MethodName)) ∈ gTW := gTW_in 747 (by decide +kernel) (by decide +kernel)
theorem w_751 : (Cond.methodLink "SelfArranger" (175 : Nat) ({ cls := "SelfArranger", name := "requireIndex", desc := "(I)V" } : MethodName)) ∈ gTW := gTW_in 751 (by decide +kernel) (by decide +kernel)
theorem w_755 : (Cond.methodLink "SelfArrangerLaw" (127 : Nat) ({ cls := "SelfArrangerLaw", name := "index", desc := "(LSelfArranger;II[J)I" } : MethodName)) ∈ gTW := gTW_in 755 (by decide +kernel) (by decide +kernel)
theorem w_758 : (Cond.methodLink "SelfArrangerLaw" (49 : Nat) ({ cls := "SelfArranger", name := "index", desc := "(II)I" } : MethodName)) ∈ gTW := gTW_in 758 (by decide +kernel) (by decide +kernel)
theorem w_762 : (Cond.methodLinkNest "SelfArranger" (192 : Nat) ({ cls := "SelfArranger$Table", name := "indexSize", desc := "()I" } : MethodName) "SelfArranger") ∈ gTW := gTW_in 762 (by decide +kernel) (by decide +kernel)
theorem w_765 : (Cond.methodLinkNest "SelfArranger" (201 : Nat) ({ cls := "SelfArranger$Table", name := "firstEntry", desc := "(II)I" } : MethodName) "SelfArranger") ∈ gTW := gTW_in 765 (by decide +kernel) (by decide +kernel)
theorem w_769 : (Cond.methodLink "SelfArranger$Table" (47 : Nat) ({ cls := "SelfArranger$Table", name := "isAfter", desc := "(IIII)Z" } : MethodName)) ∈ gTW := gTW_in 769 (by decide +kernel) (by decide +kernel)
theorem w_771 : (Cond.methodLink "SelfArrangerLaw" (134 : Nat) ({ cls := "SelfArrangerLaw", name := "shape", desc := "(LSelfArranger;II[J)I" } : MethodName)) ∈ gTW := gTW_in 771 (by decide +kernel) (by decide +kernel)
theorem w_774 : (Cond.methodLink "SelfArrangerLaw" (52 : Nat) ({ cls := "SelfArranger", name := "shape", desc := "(II)I" } : MethodName)) ∈ gTW := gTW_in 774 (by decide +kernel) (by decide +kernel)
theorem w_779 : (Cond.methodLinkNest "SelfArranger" (221 : Nat) ({ cls := "SelfArranger$Conditions", name := "kindsCode", desc := "()I" } : MethodName) "SelfArranger") ∈ gTW := gTW_in 779 (by decide +kernel) (by decide +kernel)
theorem w_780 : (Cond.methodLinkNest "SelfArranger" (228 : Nat) ({ cls := "SelfArranger$WayCosts", name := "least", desc := "(I)I" } : MethodName) "SelfArranger") ∈ gTW := gTW_in 780 (by decide +kernel) (by decide +kernel)
theorem w_782 : (Cond.methodLink "SelfArrangerLaw" (145 : Nat) ({ cls := "SelfArrangerLaw", name := "budget", desc := "(LSelfArranger;I)I" } : MethodName)) ∈ gTW := gTW_in 782 (by decide +kernel) (by decide +kernel)
theorem w_785 : (Cond.methodLink "SelfArrangerLaw" (55 : Nat) ({ cls := "SelfArranger", name := "budget", desc := "(I)V" } : MethodName)) ∈ gTW := gTW_in 785 (by decide +kernel) (by decide +kernel)
theorem w_790 : (Cond.methodLink "SelfArrangerLaw" (152 : Nat) ({ cls := "SelfArrangerLaw", name := "costOf", desc := "(LSelfArranger;I[J)I" } : MethodName)) ∈ gTW := gTW_in 790 (by decide +kernel) (by decide +kernel)
theorem w_793 : (Cond.methodLink "SelfArrangerLaw" (58 : Nat) ({ cls := "SelfArranger", name := "costOf", desc := "(I)J" } : MethodName)) ∈ gTW := gTW_in 793 (by decide +kernel) (by decide +kernel)
theorem w_798 : (Cond.methodLinkNest "SelfArranger" (248 : Nat) ({ cls := "SelfArranger$Adviser", name := "setCost", desc := "(I)J" } : MethodName) "SelfArranger") ∈ gTW := gTW_in 798 (by decide +kernel) (by decide +kernel)
theorem w_799 : (Cond.methodLink "SelfArrangerLaw" (155 : Nat) ({ cls := "SelfArrangerLaw", name := "build", desc := "(LSelfArranger;I)I" } : MethodName)) ∈ gTW := gTW_in 799 (by decide +kernel) (by decide +kernel)
theorem w_803 : (Cond.methodLink "SelfArrangerLaw" (62 : Nat) ({ cls := "SelfArranger", name := "build", desc := "(I)V" } : MethodName)) ∈ gTW := gTW_in 803 (by decide +kernel) (by decide +kernel)
theorem w_807 : (Cond.methodLinkNest "SelfArranger" (252 : Nat) ({ cls := "SelfArranger$Builder", name := "isBusy", desc := "()Z" } : MethodName) "SelfArranger") ∈ gTW := gTW_in 807 (by decide +kernel) (by decide +kernel)
theorem w_818 : (Cond.methodLink "SelfArranger" (259 : Nat) ({ cls := "java/lang/IllegalStateException", name := "<init>", desc := "(Ljava/lang/String;)V" } : MethodName)) ∈ gTW := gTW_in 818 (by decide +kernel) (by decide +kernel)
theorem w_821 : (Cond.methodLink "java/lang/IllegalStateException" (7 : Nat) ({ cls := "java/lang/RuntimeException", name := "<init>", desc := "(Ljava/lang/String;)V" } : MethodName)) ∈ gTW := gTW_in 821 (by decide +kernel) (by decide +kernel)
theorem w_824 : (Cond.methodLinkNest "SelfArranger" (260 : Nat) ({ cls := "SelfArranger$Builder", name := "begin", desc := "(I)V" } : MethodName) "SelfArranger") ∈ gTW := gTW_in 824 (by decide +kernel) (by decide +kernel)
theorem w_828 : (Cond.methodLink "SelfArranger$Builder" (29 : Nat) ({ cls := "SelfArranger$Builder", name := "finishIfDone", desc := "()V" } : MethodName)) ∈ gTW := gTW_in 828 (by decide +kernel) (by decide +kernel)
theorem w_832 : (Cond.methodLink "SelfArranger$Builder" (47 : Nat) ({ cls := "SelfArranger$Builder", name := "left", desc := "()I" } : MethodName)) ∈ gTW := gTW_in 832 (by decide +kernel) (by decide +kernel)
theorem w_836 : (Cond.methodLink "SelfArrangerLaw" (158 : Nat) ({ cls := "SelfArrangerLaw", name := "work", desc := "(LSelfArranger;I[J)I" } : MethodName)) ∈ gTW := gTW_in 836 (by decide +kernel) (by decide +kernel)
theorem w_839 : (Cond.methodLink "SelfArrangerLaw" (67 : Nat) ({ cls := "SelfArranger", name := "work", desc := "(I)I" } : MethodName)) ∈ gTW := gTW_in 839 (by decide +kernel) (by decide +kernel)
theorem w_845 : (Cond.methodLinkNest "SelfArranger" (267 : Nat) ({ cls := "SelfArranger$Builder", name := "handle", desc := "(I)I" } : MethodName) "SelfArranger") ∈ gTW := gTW_in 845 (by decide +kernel) (by decide +kernel)
theorem w_849 : (Cond.methodLink "SelfArranger$Builder" (41 : Nat) ({ cls := "java/lang/Math", name := "min", desc := "(II)I" } : MethodName)) ∈ gTW := gTW_in 849 (by decide +kernel) (by decide +kernel)
theorem w_850 : (Cond.methodLink "SelfArrangerLaw" (161 : Nat) ({ cls := "SelfArrangerLaw", name := "drop", desc := "(LSelfArranger;I[J)I" } : MethodName)) ∈ gTW := gTW_in 850 (by decide +kernel) (by decide +kernel)
theorem w_853 : (Cond.methodLink "SelfArrangerLaw" (70 : Nat) ({ cls := "SelfArranger", name := "drop", desc := "(I)Z" } : MethodName)) ∈ gTW := gTW_in 853 (by decide +kernel) (by decide +kernel)
theorem w_857 : (Cond.methodLinkNest "SelfArranger" (270 : Nat) ({ cls := "SelfArranger$Builder", name := "discard", desc := "(I)Z" } : MethodName) "SelfArranger") ∈ gTW := gTW_in 857 (by decide +kernel) (by decide +kernel)
theorem w_863 : (Cond.methodLink "SelfArrangerLaw" (84 : Nat) ({ cls := "SelfArrangerModel", name := "<init>", desc := "(I)V" } : MethodName)) ∈ gTW := gTW_in 863 (by decide +kernel) (by decide +kernel)
theorem w_866 : (Cond.methodLink "SelfArrangerModel" (1 : Nat) ({ cls := "java/lang/Object", name := "<init>", desc := "()V" } : MethodName)) ∈ gTW := gTW_in 866 (by decide +kernel) (by decide +kernel)
theorem w_970 : (Cond.methodLink "SelfArrangerLaw" (89 : Nat) ({ cls := "SelfArrangerModel", name := "thrown", desc := "()I" } : MethodName)) ∈ gTW := gTW_in 970 (by decide +kernel) (by decide +kernel)
theorem w_974 : (Cond.methodLink "SelfArrangerLaw" (88 : Nat) ({ cls := "SelfArrangerModel", name := "insert", desc := "(III)I" } : MethodName)) ∈ gTW := gTW_in 974 (by decide +kernel) (by decide +kernel)
theorem w_978 : (Cond.methodLink "SelfArrangerModel" (87 : Nat) ({ cls := "SelfArrangerModel", name := "isValue", desc := "(I)Z" } : MethodName)) ∈ gTW := gTW_in 978 (by decide +kernel) (by decide +kernel)
theorem w_981 : (Cond.methodLink "SelfArrangerModel" (91 : Nat) ({ cls := "SelfArrangerModel", name := "note", desc := "(I)V" } : MethodName)) ∈ gTW := gTW_in 981 (by decide +kernel) (by decide +kernel)
theorem w_985 : (Cond.methodLink "SelfArrangerLaw" (96 : Nat) ({ cls := "SelfArrangerModel", name := "delete", desc := "(I)V" } : MethodName)) ∈ gTW := gTW_in 985 (by decide +kernel) (by decide +kernel)
theorem w_989 : (Cond.methodLink "SelfArrangerModel" (95 : Nat) ({ cls := "SelfArrangerModel", name := "isRow", desc := "(I)Z" } : MethodName)) ∈ gTW := gTW_in 989 (by decide +kernel) (by decide +kernel)
theorem w_993 : (Cond.methodLink "SelfArrangerLaw" (100 : Nat) ({ cls := "SelfArrangerModel", name := "change", desc := "(III)V" } : MethodName)) ∈ gTW := gTW_in 993 (by decide +kernel) (by decide +kernel)
theorem w_997 : (Cond.methodLink "SelfArrangerModel" (98 : Nat) ({ cls := "SelfArrangerModel", name := "isColumn", desc := "(I)Z" } : MethodName)) ∈ gTW := gTW_in 997 (by decide +kernel) (by decide +kernel)
theorem w_1000 : (Cond.methodLink "SelfArrangerLaw" (104 : Nat) ({ cls := "SelfArrangerModel", name := "value", desc := "(II)I" } : MethodName)) ∈ gTW := gTW_in 1000 (by decide +kernel) (by decide +kernel)
theorem w_1004 : (Cond.methodLink "SelfArrangerLaw" (129 : Nat) ({ cls := "SelfArrangerModel", name := "index", desc := "(II)I" } : MethodName)) ∈ gTW := gTW_in 1004 (by decide +kernel) (by decide +kernel)
theorem w_1008 : (Cond.methodLink "SelfArrangerModel" (123 : Nat) ({ cls := "SelfArrangerModel", name := "isIndex", desc := "(I)Z" } : MethodName)) ∈ gTW := gTW_in 1008 (by decide +kernel) (by decide +kernel)
theorem w_1011 : (Cond.methodLink "SelfArrangerModel" (126 : Nat) ({ cls := "SelfArrangerModel", name := "height", desc := "()I" } : MethodName)) ∈ gTW := gTW_in 1011 (by decide +kernel) (by decide +kernel)
theorem w_1015 : (Cond.methodLink "SelfArrangerModel" (120 : Nat) ({ cls := "SelfArrangerModel", name := "leaves", desc := "()I" } : MethodName)) ∈ gTW := gTW_in 1015 (by decide +kernel) (by decide +kernel)
theorem w_1019 : (Cond.methodLink "SelfArrangerModel" (112 : Nat) ({ cls := "SelfArrangerModel", name := "live", desc := "()I" } : MethodName)) ∈ gTW := gTW_in 1019 (by decide +kernel) (by decide +kernel)
theorem w_1023 : (Cond.methodLink "SelfArrangerModel" (116 : Nat) ({ cls := "SelfArrangerModel", name := "byFour", desc := "(I)I" } : MethodName)) ∈ gTW := gTW_in 1023 (by decide +kernel) (by decide +kernel)
theorem w_1026 : (Cond.methodLink "SelfArrangerModel" (129 : Nat) ({ cls := "SelfArrangerModel", name := "sizeOfIndex", desc := "()I" } : MethodName)) ∈ gTW := gTW_in 1026 (by decide +kernel) (by decide +kernel)
theorem w_1030 : (Cond.methodLink "SelfArrangerModel" (132 : Nat) ({ cls := "SelfArrangerModel", name := "sort", desc := "(II)V" } : MethodName)) ∈ gTW := gTW_in 1030 (by decide +kernel) (by decide +kernel)
theorem w_1034 : (Cond.methodLink "SelfArrangerModel" (108 : Nat) ({ cls := "SelfArrangerModel", name := "isBefore", desc := "(IIII)Z" } : MethodName)) ∈ gTW := gTW_in 1034 (by decide +kernel) (by decide +kernel)
theorem w_1038 : (Cond.methodLink "SelfArrangerModel" (101 : Nat) ({ cls := "SelfArrangerModel", name := "of", desc := "(II)I" } : MethodName)) ∈ gTW := gTW_in 1038 (by decide +kernel) (by decide +kernel)
theorem w_1042 : (Cond.methodLink "SelfArrangerLaw" (126 : Nat) ({ cls := "SelfArrangerModel", name := "cost", desc := "(I)I" } : MethodName)) ∈ gTW := gTW_in 1042 (by decide +kernel) (by decide +kernel)
theorem w_1046 : (Cond.methodLink "SelfArrangerModel" (162 : Nat) ({ cls := "SelfArrangerModel", name := "heapPages", desc := "()I" } : MethodName)) ∈ gTW := gTW_in 1046 (by decide +kernel) (by decide +kernel)
theorem w_1050 : (Cond.methodLink "SelfArrangerModel" (165 : Nat) ({ cls := "SelfArrangerModel", name := "isWay", desc := "(II)Z" } : MethodName)) ∈ gTW := gTW_in 1050 (by decide +kernel) (by decide +kernel)
theorem w_1054 : (Cond.methodLink "SelfArrangerModel" (168 : Nat) ({ cls := "SelfArrangerModel", name := "costBy", desc := "(II)I" } : MethodName)) ∈ gTW := gTW_in 1054 (by decide +kernel) (by decide +kernel)
theorem w_1058 : (Cond.methodLink "SelfArrangerModel" (156 : Nat) ({ cls := "SelfArrangerModel", name := "stretch", desc := "(II)V" } : MethodName)) ∈ gTW := gTW_in 1058 (by decide +kernel) (by decide +kernel)
theorem w_1062 : (Cond.methodLink "SelfArrangerModel" (147 : Nat) ({ cls := "SelfArrangerModel", name := "isAhead", desc := "(III)Z" } : MethodName)) ∈ gTW := gTW_in 1062 (by decide +kernel) (by decide +kernel)
theorem w_1066 : (Cond.methodLink "SelfArrangerModel" (136 : Nat) ({ cls := "SelfArrangerModel", name := "countsSecond", desc := "(II)Z" } : MethodName)) ∈ gTW := gTW_in 1066 (by decide +kernel) (by decide +kernel)
theorem w_1070 : (Cond.methodLink "SelfArrangerModel" (153 : Nat) ({ cls := "SelfArrangerModel", name := "isIn", desc := "(III)Z" } : MethodName)) ∈ gTW := gTW_in 1070 (by decide +kernel) (by decide +kernel)
theorem w_1074 : (Cond.methodLink "SelfArrangerModel" (140 : Nat) ({ cls := "SelfArrangerModel", name := "fits", desc := "(III)Z" } : MethodName)) ∈ gTW := gTW_in 1074 (by decide +kernel) (by decide +kernel)
theorem w_1078 : (Cond.methodLink "SelfArrangerModel" (159 : Nat) ({ cls := "SelfArrangerModel", name := "leavesTouched", desc := "()I" } : MethodName)) ∈ gTW := gTW_in 1078 (by decide +kernel) (by decide +kernel)
theorem w_1082 : (Cond.methodLink "SelfArrangerLaw" (108 : Nat) ({ cls := "SelfArrangerModel", name := "where", desc := "(IIII)V" } : MethodName)) ∈ gTW := gTW_in 1082 (by decide +kernel) (by decide +kernel)
theorem w_1086 : (Cond.methodLink "SelfArrangerLaw" (112 : Nat) ({ cls := "SelfArrangerModel", name := "order", desc := "(II)V" } : MethodName)) ∈ gTW := gTW_in 1086 (by decide +kernel) (by decide +kernel)
theorem w_1090 : (Cond.methodLink "SelfArrangerLaw" (116 : Nat) ({ cls := "SelfArrangerModel", name := "ask", desc := "()I" } : MethodName)) ∈ gTW := gTW_in 1090 (by decide +kernel) (by decide +kernel)
theorem w_1094 : (Cond.methodLink "SelfArrangerModel" (196 : Nat) ({ cls := "SelfArrangerModel", name := "wayOf", desc := "(II)I" } : MethodName)) ∈ gTW := gTW_in 1094 (by decide +kernel) (by decide +kernel)
theorem w_1098 : (Cond.methodLink "SelfArrangerModel" (199 : Nat) ({ cls := "SelfArrangerModel", name := "costOfWay", desc := "(II)I" } : MethodName)) ∈ gTW := gTW_in 1098 (by decide +kernel) (by decide +kernel)
theorem w_1102 : (Cond.methodLink "SelfArrangerModel" (183 : Nat) ({ cls := "SelfArrangerModel", name := "touch", desc := "(III)V" } : MethodName)) ∈ gTW := gTW_in 1102 (by decide +kernel) (by decide +kernel)
theorem w_1106 : (Cond.methodLink "SelfArrangerModel" (205 : Nat) ({ cls := "SelfArrangerModel", name := "touchIndex", desc := "(I)V" } : MethodName)) ∈ gTW := gTW_in 1106 (by decide +kernel) (by decide +kernel)
theorem w_1110 : (Cond.methodLink "SelfArrangerModel" (180 : Nat) ({ cls := "SelfArrangerModel", name := "firstLeaf", desc := "()I" } : MethodName)) ∈ gTW := gTW_in 1110 (by decide +kernel) (by decide +kernel)
theorem w_1114 : (Cond.methodLink "SelfArrangerModel" (211 : Nat) ({ cls := "SelfArrangerModel", name := "remember", desc := "()V" } : MethodName)) ∈ gTW := gTW_in 1114 (by decide +kernel) (by decide +kernel)
theorem w_1118 : (Cond.methodLink "SelfArrangerModel" (190 : Nat) ({ cls := "SelfArrangerModel", name := "findShape", desc := "()I" } : MethodName)) ∈ gTW := gTW_in 1118 (by decide +kernel) (by decide +kernel)
theorem w_1122 : (Cond.methodLink "SelfArrangerModel" (193 : Nat) ({ cls := "SelfArrangerModel", name := "copyShape", desc := "(II)V" } : MethodName)) ∈ gTW := gTW_in 1122 (by decide +kernel) (by decide +kernel)
theorem w_1126 : (Cond.methodLink "SelfArrangerLaw" (120 : Nat) ({ cls := "SelfArrangerModel", name := "answer", desc := "(I)I" } : MethodName)) ∈ gTW := gTW_in 1126 (by decide +kernel) (by decide +kernel)
theorem w_1130 : (Cond.methodLink "SelfArrangerLaw" (123 : Nat) ({ cls := "SelfArrangerModel", name := "last", desc := "(I)I" } : MethodName)) ∈ gTW := gTW_in 1130 (by decide +kernel) (by decide +kernel)
theorem w_1134 : (Cond.methodLink "SelfArrangerLaw" (133 : Nat) ({ cls := "SelfArrangerModel", name := "shapes", desc := "()I" } : MethodName)) ∈ gTW := gTW_in 1134 (by decide +kernel) (by decide +kernel)
theorem w_1138 : (Cond.methodLink "SelfArrangerLaw" (136 : Nat) ({ cls := "SelfArrangerModel", name := "shape", desc := "(II)I" } : MethodName)) ∈ gTW := gTW_in 1138 (by decide +kernel) (by decide +kernel)
theorem w_1142 : (Cond.methodLink "SelfArrangerLaw" (140 : Nat) ({ cls := "SelfArrangerModel", name := "changes", desc := "()I" } : MethodName)) ∈ gTW := gTW_in 1142 (by decide +kernel) (by decide +kernel)
theorem w_1146 : (Cond.methodLink "SelfArrangerLaw" (144 : Nat) ({ cls := "SelfArrangerModel", name := "period", desc := "()I" } : MethodName)) ∈ gTW := gTW_in 1146 (by decide +kernel) (by decide +kernel)
theorem w_1150 : (Cond.methodLink "SelfArrangerLaw" (147 : Nat) ({ cls := "SelfArrangerModel", name := "budget", desc := "(I)V" } : MethodName)) ∈ gTW := gTW_in 1150 (by decide +kernel) (by decide +kernel)
theorem w_1154 : (Cond.methodLink "SelfArrangerLaw" (151 : Nat) ({ cls := "SelfArrangerModel", name := "choose", desc := "()I" } : MethodName)) ∈ gTW := gTW_in 1154 (by decide +kernel) (by decide +kernel)
theorem w_1158 : (Cond.methodLink "SelfArrangerModel" (217 : Nat) ({ cls := "SelfArrangerModel", name := "findCosts", desc := "()V" } : MethodName)) ∈ gTW := gTW_in 1158 (by decide +kernel) (by decide +kernel)
theorem w_1162 : (Cond.methodLink "SelfArrangerModel" (220 : Nat) ({ cls := "SelfArrangerModel", name := "sumOf", desc := "(I)J" } : MethodName)) ∈ gTW := gTW_in 1162 (by decide +kernel) (by decide +kernel)
theorem w_1166 : (Cond.methodLink "SelfArrangerModel" (214 : Nat) ({ cls := "SelfArrangerModel", name := "members", desc := "(I)I" } : MethodName)) ∈ gTW := gTW_in 1166 (by decide +kernel) (by decide +kernel)
theorem w_1169 : (Cond.methodLink "SelfArrangerLaw" (154 : Nat) ({ cls := "SelfArrangerModel", name := "costOf", desc := "(I)J" } : MethodName)) ∈ gTW := gTW_in 1169 (by decide +kernel) (by decide +kernel)
theorem w_1173 : (Cond.methodLink "SelfArrangerLaw" (157 : Nat) ({ cls := "SelfArrangerModel", name := "build", desc := "(I)V" } : MethodName)) ∈ gTW := gTW_in 1173 (by decide +kernel) (by decide +kernel)
theorem w_1177 : (Cond.methodLink "SelfArrangerModel" (224 : Nat) ({ cls := "SelfArrangerModel", name := "settle", desc := "()I" } : MethodName)) ∈ gTW := gTW_in 1177 (by decide +kernel) (by decide +kernel)
theorem w_1181 : (Cond.methodLink "SelfArrangerModel" (227 : Nat) ({ cls := "SelfArrangerModel", name := "leftToDo", desc := "()I" } : MethodName)) ∈ gTW := gTW_in 1181 (by decide +kernel) (by decide +kernel)
theorem w_1185 : (Cond.methodLink "SelfArrangerLaw" (160 : Nat) ({ cls := "SelfArrangerModel", name := "work", desc := "(I)I" } : MethodName)) ∈ gTW := gTW_in 1185 (by decide +kernel) (by decide +kernel)
theorem w_1189 : (Cond.methodLink "SelfArrangerLaw" (163 : Nat) ({ cls := "SelfArrangerModel", name := "drop", desc := "(I)Z" } : MethodName)) ∈ gTW := gTW_in 1189 (by decide +kernel) (by decide +kernel)
theorem w_22 : (Cond.classLink "SelfArrangerLaw" (8 : Nat) "SelfArranger") ∈ gTW := gTW_in 22 (by decide +kernel) (by decide +kernel)
theorem w_30 : (Cond.classLink "SelfArranger" (9 : Nat) "SelfArranger$Table") ∈ gTW := gTW_in 30 (by decide +kernel) (by decide +kernel)
theorem w_56 : (Cond.classLink "SelfArranger" (16 : Nat) "SelfArranger$Conditions") ∈ gTW := gTW_in 56 (by decide +kernel) (by decide +kernel)
theorem w_74 : (Cond.classLink "SelfArranger" (23 : Nat) "SelfArranger$Stretch") ∈ gTW := gTW_in 74 (by decide +kernel) (by decide +kernel)
theorem w_80 : (Cond.classLink "SelfArranger$Stretch" (9 : Nat) "SelfArranger$RowList") ∈ gTW := gTW_in 80 (by decide +kernel) (by decide +kernel)
theorem w_116 : (Cond.classLink "SelfArranger" (32 : Nat) "SelfArranger$WayCosts") ∈ gTW := gTW_in 116 (by decide +kernel) (by decide +kernel)
theorem w_129 : (Cond.classLink "SelfArranger" (39 : Nat) "SelfArranger$Pool") ∈ gTW := gTW_in 129 (by decide +kernel) (by decide +kernel)
theorem w_159 : (Cond.classLink "SelfArranger" (48 : Nat) "SelfArranger$Ledger") ∈ gTW := gTW_in 159 (by decide +kernel) (by decide +kernel)
theorem w_165 : (Cond.classLink "SelfArranger$Ledger" (9 : Nat) "SelfArranger$Shape") ∈ gTW := gTW_in 165 (by decide +kernel) (by decide +kernel)
theorem w_172 : (Cond.classLink "SelfArranger$Shape" (7 : Nat) "SelfArranger$Conditions") ∈ gTW := gTW_in 172 (by decide +kernel) (by decide +kernel)
theorem w_174 : (Cond.classLink "SelfArranger$Shape" (16 : Nat) "SelfArranger$WayCosts") ∈ gTW := gTW_in 174 (by decide +kernel) (by decide +kernel)
theorem w_209 : (Cond.classLink "SelfArranger" (55 : Nat) "SelfArranger$Adviser") ∈ gTW := gTW_in 209 (by decide +kernel) (by decide +kernel)
theorem w_225 : (Cond.classLink "SelfArranger" (64 : Nat) "SelfArranger$Builder") ∈ gTW := gTW_in 225 (by decide +kernel) (by decide +kernel)
theorem w_248 : (Cond.classLink "SelfArranger" (71 : Nat) "SelfArranger$RowList") ∈ gTW := gTW_in 248 (by decide +kernel) (by decide +kernel)
theorem w_537 : (Cond.classLink "SelfArrangerLaw" (13 : Nat) "java/lang/IllegalArgumentException") ∈ gTW := gTW_in 537 (by decide +kernel) (by decide +kernel)
theorem w_538 : (Cond.classLink "SelfArrangerLaw" (15 : Nat) "java/lang/UnsupportedOperationException") ∈ gTW := gTW_in 538 (by decide +kernel) (by decide +kernel)
theorem w_546 : (Cond.classLink "SelfArranger" (129 : Nat) "java/lang/IllegalArgumentException") ∈ gTW := gTW_in 546 (by decide +kernel) (by decide +kernel)
theorem w_619 : (Cond.classLink "SelfArranger" (98 : Nat) "java/lang/UnsupportedOperationException") ∈ gTW := gTW_in 619 (by decide +kernel) (by decide +kernel)
theorem w_662 : (Cond.classLink "SelfArrangerLaw" (21 : Nat) "java/lang/IndexOutOfBoundsException") ∈ gTW := gTW_in 662 (by decide +kernel) (by decide +kernel)
theorem w_671 : (Cond.classLink "SelfArranger" (155 : Nat) "java/lang/IndexOutOfBoundsException") ∈ gTW := gTW_in 671 (by decide +kernel) (by decide +kernel)
theorem w_802 : (Cond.classLink "SelfArrangerLaw" (65 : Nat) "java/lang/IllegalStateException") ∈ gTW := gTW_in 802 (by decide +kernel) (by decide +kernel)
theorem w_808 : (Cond.classLink "SelfArranger" (255 : Nat) "java/lang/IllegalStateException") ∈ gTW := gTW_in 808 (by decide +kernel) (by decide +kernel)
theorem w_861 : (Cond.classLink "SelfArrangerLaw" (82 : Nat) "SelfArrangerModel") ∈ gTW := gTW_in 861 (by decide +kernel) (by decide +kernel)
theorem w_528 : (Cond.constant "java/lang/Integer" (265 : Nat) (1431655765 : Int32)) ∈ gTW := gTW_in 528 (by decide +kernel) (by decide +kernel)
theorem w_529 : (Cond.constant "java/lang/Integer" (266 : Nat) (858993459 : Int32)) ∈ gTW := gTW_in 529 (by decide +kernel) (by decide +kernel)
theorem w_530 : (Cond.constant "java/lang/Integer" (267 : Nat) (252645135 : Int32)) ∈ gTW := gTW_in 530 (by decide +kernel) (by decide +kernel)
theorem w_26 : (Cond.code ({ cls := "SelfArranger", name := "<init>", desc := "(I)V" } : MethodName) prog_1_method_1_code (2 : Nat) (Option.none : Option FieldType)) ∈ gTW := gTW_in 26 (by decide +kernel) (by decide +kernel)
theorem w_29 : (Cond.code ({ cls := "java/lang/Object", name := "<init>", desc := "()V" } : MethodName) object_method_1_code (1 : Nat) (Option.none : Option FieldType)) ∈ gTW := gTW_in 29 (by decide +kernel) (by decide +kernel)
theorem w_34 : (Cond.code ({ cls := "SelfArranger$Table", name := "<init>", desc := "()V" } : MethodName) prog_10_method_1_code (1 : Nat) (Option.none : Option FieldType)) ∈ gTW := gTW_in 34 (by decide +kernel) (by decide +kernel)
theorem w_60 : (Cond.code ({ cls := "SelfArranger$Conditions", name := "<init>", desc := "()V" } : MethodName) prog_4_method_1_code (1 : Nat) (Option.none : Option FieldType)) ∈ gTW := gTW_in 60 (by decide +kernel) (by decide +kernel)
theorem w_78 : (Cond.code ({ cls := "SelfArranger$Stretch", name := "<init>", desc := "(LSelfArranger$Table;)V" } : MethodName) prog_9_method_1_code (2 : Nat) (Option.none : Option FieldType)) ∈ gTW := gTW_in 78 (by decide +kernel) (by decide +kernel)
theorem w_84 : (Cond.code ({ cls := "SelfArranger$RowList", name := "<init>", desc := "()V" } : MethodName) prog_7_method_1_code (1 : Nat) (Option.none : Option FieldType)) ∈ gTW := gTW_in 84 (by decide +kernel) (by decide +kernel)
theorem w_120 : (Cond.code ({ cls := "SelfArranger$WayCosts", name := "<init>", desc := "()V" } : MethodName) prog_11_method_1_code (1 : Nat) (Option.none : Option FieldType)) ∈ gTW := gTW_in 120 (by decide +kernel) (by decide +kernel)
theorem w_133 : (Cond.code ({ cls := "SelfArranger$Pool", name := "<init>", desc := "(I)V" } : MethodName) prog_6_method_1_code (4 : Nat) (Option.none : Option FieldType)) ∈ gTW := gTW_in 133 (by decide +kernel) (by decide +kernel)
theorem w_137 : (Cond.code ({ cls := "java/lang/Math", name := "min", desc := "(II)I" } : MethodName) prog_19_method_69_code (2 : Nat) (Option.some FieldType.int)) ∈ gTW := gTW_in 137 (by decide +kernel) (by decide +kernel)
theorem w_140 : (Cond.code ({ cls := "java/lang/Math", name := "max", desc := "(II)I" } : MethodName) prog_19_method_65_code (2 : Nat) (Option.some FieldType.int)) ∈ gTW := gTW_in 140 (by decide +kernel) (by decide +kernel)
theorem w_163 : (Cond.code ({ cls := "SelfArranger$Ledger", name := "<init>", desc := "()V" } : MethodName) prog_5_method_1_code (2 : Nat) (Option.none : Option FieldType)) ∈ gTW := gTW_in 163 (by decide +kernel) (by decide +kernel)
theorem w_170 : (Cond.code ({ cls := "SelfArranger$Shape", name := "<init>", desc := "()V" } : MethodName) prog_8_method_1_code (1 : Nat) (Option.none : Option FieldType)) ∈ gTW := gTW_in 170 (by decide +kernel) (by decide +kernel)
theorem w_213 : (Cond.code ({ cls := "SelfArranger$Adviser", name := "<init>", desc := "(LSelfArranger$Table;LSelfArranger$Stretch;LSelfArranger$Ledger;)V" } : MethodName) prog_2_method_1_code (4 : Nat) (Option.none : Option FieldType)) ∈ gTW := gTW_in 213 (by decide +kernel) (by decide +kernel)
theorem w_229 : (Cond.code ({ cls := "SelfArranger$Builder", name := "<init>", desc := "(LSelfArranger$Table;)V" } : MethodName) prog_3_method_1_code (2 : Nat) (Option.none : Option FieldType)) ∈ gTW := gTW_in 229 (by decide +kernel) (by decide +kernel)
theorem w_296 : (Cond.code ({ cls := "SelfArranger", name := "ask", desc := "()I" } : MethodName) prog_1_method_8_code (1 : Nat) (Option.some FieldType.int)) ∈ gTW := gTW_in 296 (by decide +kernel) (by decide +kernel)
theorem w_300 : (Cond.code ({ cls := "SelfArranger", name := "takeCheapestWay", desc := "()V" } : MethodName) prog_1_method_28_code (1 : Nat) (Option.none : Option FieldType)) ∈ gTW := gTW_in 300 (by decide +kernel) (by decide +kernel)
theorem w_304 : (Cond.code ({ cls := "SelfArranger$WayCosts", name := "measure", desc := "(LSelfArranger$Table;LSelfArranger$Stretch;LSelfArranger$Conditions;)V" } : MethodName) prog_11_method_2_code (5 : Nat) (Option.none : Option FieldType)) ∈ gTW := gTW_in 304 (by decide +kernel) (by decide +kernel)
theorem w_308 : (Cond.code ({ cls := "SelfArranger$Table", name := "heapPages", desc := "()I" } : MethodName) prog_10_method_7_code (1 : Nat) (Option.some FieldType.int)) ∈ gTW := gTW_in 308 (by decide +kernel) (by decide +kernel)
theorem w_311 : (Cond.code ({ cls := "SelfArranger", name := "groupsOfFour", desc := "(I)I" } : MethodName) prog_1_method_34_code (1 : Nat) (Option.some FieldType.int)) ∈ gTW := gTW_in 311 (by decide +kernel) (by decide +kernel)
theorem w_317 : (Cond.code ({ cls := "SelfArranger$Conditions", name := "binds", desc := "(I)Z" } : MethodName) prog_4_method_4_code (2 : Nat) (Option.some FieldType.boolean)) ∈ gTW := gTW_in 317 (by decide +kernel) (by decide +kernel)
theorem w_321 : (Cond.code ({ cls := "SelfArranger$Stretch", name := "lay", desc := "(LSelfArranger$Conditions;I)V" } : MethodName) prog_9_method_2_code (4 : Nat) (Option.none : Option FieldType)) ∈ gTW := gTW_in 321 (by decide +kernel) (by decide +kernel)
theorem w_329 : (Cond.code ({ cls := "SelfArranger$Stretch", name := "place", desc := "(LSelfArranger$Conditions;I)V" } : MethodName) prog_9_method_3_code (3 : Nat) (Option.none : Option FieldType)) ∈ gTW := gTW_in 329 (by decide +kernel) (by decide +kernel)
theorem w_333 : (Cond.code ({ cls := "SelfArranger$Stretch", name := "isBefore", desc := "(LSelfArranger$Conditions;I)Z" } : MethodName) prog_9_method_4_code (5 : Nat) (Option.some FieldType.boolean)) ∈ gTW := gTW_in 333 (by decide +kernel) (by decide +kernel)
theorem w_337 : (Cond.code ({ cls := "SelfArranger$Table", name := "at", desc := "(II)I" } : MethodName) prog_10_method_6_code (3 : Nat) (Option.some FieldType.int)) ∈ gTW := gTW_in 337 (by decide +kernel) (by decide +kernel)
theorem w_341 : (Cond.code ({ cls := "SelfArranger$Stretch", name := "isInside", desc := "(LSelfArranger$Conditions;I)Z" } : MethodName) prog_9_method_5_code (3 : Nat) (Option.some FieldType.boolean)) ∈ gTW := gTW_in 341 (by decide +kernel) (by decide +kernel)
theorem w_345 : (Cond.code ({ cls := "SelfArranger$Conditions", name := "fit", desc := "(II)Z" } : MethodName) prog_4_method_5_code (3 : Nat) (Option.some FieldType.boolean)) ∈ gTW := gTW_in 345 (by decide +kernel) (by decide +kernel)
theorem w_349 : (Cond.code ({ cls := "SelfArranger$RowList", name := "append", desc := "(I)V" } : MethodName) prog_7_method_2_code (2 : Nat) (Option.none : Option FieldType)) ∈ gTW := gTW_in 349 (by decide +kernel) (by decide +kernel)
theorem w_353 : (Cond.code ({ cls := "SelfArranger$Stretch", name := "pages", desc := "()I" } : MethodName) prog_9_method_9_code (1 : Nat) (Option.some FieldType.int)) ∈ gTW := gTW_in 353 (by decide +kernel) (by decide +kernel)
theorem w_357 : (Cond.code ({ cls := "SelfArranger$Table", name := "indexHeight", desc := "()I" } : MethodName) prog_10_method_9_code (3 : Nat) (Option.some FieldType.int)) ∈ gTW := gTW_in 357 (by decide +kernel) (by decide +kernel)
theorem w_361 : (Cond.code ({ cls := "SelfArranger$Table", name := "indexLeaves", desc := "()I" } : MethodName) prog_10_method_8_code (1 : Nat) (Option.some FieldType.int)) ∈ gTW := gTW_in 361 (by decide +kernel) (by decide +kernel)
theorem w_366 : (Cond.code ({ cls := "SelfArranger$Stretch", name := "leaves", desc := "()I" } : MethodName) prog_9_method_8_code (1 : Nat) (Option.some FieldType.int)) ∈ gTW := gTW_in 366 (by decide +kernel) (by decide +kernel)
theorem w_370 : (Cond.code ({ cls := "SelfArranger$Builder", name := "readySet", desc := "()I" } : MethodName) prog_3_method_3_code (3 : Nat) (Option.some FieldType.int)) ∈ gTW := gTW_in 370 (by decide +kernel) (by decide +kernel)
theorem w_374 : (Cond.code ({ cls := "SelfArranger$WayCosts", name := "cheapest", desc := "(I)I" } : MethodName) prog_11_method_4_code (5 : Nat) (Option.some FieldType.int)) ∈ gTW := gTW_in 374 (by decide +kernel) (by decide +kernel)
theorem w_378 : (Cond.code ({ cls := "SelfArranger$WayCosts", name := "at", desc := "(I)I" } : MethodName) prog_11_method_3_code (2 : Nat) (Option.some FieldType.int)) ∈ gTW := gTW_in 378 (by decide +kernel) (by decide +kernel)
theorem w_383 : (Cond.code ({ cls := "SelfArranger", name := "touchPages", desc := "()V" } : MethodName) prog_1_method_29_code (1 : Nat) (Option.none : Option FieldType)) ∈ gTW := gTW_in 383 (by decide +kernel) (by decide +kernel)
theorem w_387 : (Cond.code ({ cls := "SelfArranger$Pool", name := "countAnew", desc := "()V" } : MethodName) prog_6_method_2_code (1 : Nat) (Option.none : Option FieldType)) ∈ gTW := gTW_in 387 (by decide +kernel) (by decide +kernel)
theorem w_391 : (Cond.code ({ cls := "SelfArranger", name := "touchHeap", desc := "()V" } : MethodName) prog_1_method_30_code (3 : Nat) (Option.none : Option FieldType)) ∈ gTW := gTW_in 391 (by decide +kernel) (by decide +kernel)
theorem w_396 : (Cond.code ({ cls := "SelfArranger$Pool", name := "touch", desc := "(III)V" } : MethodName) prog_6_method_3_code (6 : Nat) (Option.none : Option FieldType)) ∈ gTW := gTW_in 396 (by decide +kernel) (by decide +kernel)
theorem w_400 : (Cond.code ({ cls := "SelfArranger$Pool", name := "frameOf", desc := "(I)I" } : MethodName) prog_6_method_4_code (3 : Nat) (Option.some FieldType.int)) ∈ gTW := gTW_in 400 (by decide +kernel) (by decide +kernel)
theorem w_404 : (Cond.code ({ cls := "SelfArranger$Pool", name := "freeFrame", desc := "()I" } : MethodName) prog_6_method_5_code (2 : Nat) (Option.some FieldType.int)) ∈ gTW := gTW_in 404 (by decide +kernel) (by decide +kernel)
theorem w_408 : (Cond.code ({ cls := "SelfArranger$Pool", name := "moveHand", desc := "()V" } : MethodName) prog_6_method_6_code (1 : Nat) (Option.none : Option FieldType)) ∈ gTW := gTW_in 408 (by decide +kernel) (by decide +kernel)
theorem w_412 : (Cond.code ({ cls := "SelfArranger", name := "touchIndex", desc := "(I)V" } : MethodName) prog_1_method_31_code (5 : Nat) (Option.none : Option FieldType)) ∈ gTW := gTW_in 412 (by decide +kernel) (by decide +kernel)
theorem w_417 : (Cond.code ({ cls := "SelfArranger$Stretch", name := "firstLeaf", desc := "()I" } : MethodName) prog_9_method_7_code (1 : Nat) (Option.some FieldType.int)) ∈ gTW := gTW_in 417 (by decide +kernel) (by decide +kernel)
theorem w_423 : (Cond.code ({ cls := "SelfArranger", name := "nodeAbove", desc := "(II)I" } : MethodName) prog_1_method_32_code (4 : Nat) (Option.some FieldType.int)) ∈ gTW := gTW_in 423 (by decide +kernel) (by decide +kernel)
theorem w_428 : (Cond.code ({ cls := "SelfArranger$Stretch", name := "sort", desc := "()V" } : MethodName) prog_9_method_6_code (1 : Nat) (Option.none : Option FieldType)) ∈ gTW := gTW_in 428 (by decide +kernel) (by decide +kernel)
theorem w_432 : (Cond.code ({ cls := "SelfArranger$RowList", name := "sort", desc := "(LSelfArranger$Table;II)V" } : MethodName) prog_7_method_3_code (7 : Nat) (Option.none : Option FieldType)) ∈ gTW := gTW_in 432 (by decide +kernel) (by decide +kernel)
theorem w_436 : (Cond.code ({ cls := "SelfArranger$Table", name := "isAfter", desc := "(IIII)Z" } : MethodName) prog_10_method_12_code (6 : Nat) (Option.some FieldType.boolean)) ∈ gTW := gTW_in 436 (by decide +kernel) (by decide +kernel)
theorem w_440 : (Cond.code ({ cls := "SelfArranger$Table", name := "compare", desc := "(III)I" } : MethodName) prog_10_method_13_code (4 : Nat) (Option.some FieldType.int)) ∈ gTW := gTW_in 440 (by decide +kernel) (by decide +kernel)
theorem w_444 : (Cond.code ({ cls := "java/lang/Integer", name := "compare", desc := "(II)I" } : MethodName) prog_18_method_40_code (2 : Nat) (Option.some FieldType.int)) ∈ gTW := gTW_in 444 (by decide +kernel) (by decide +kernel)
theorem w_448 : (Cond.code ({ cls := "SelfArranger", name := "findAnswer", desc := "()V" } : MethodName) prog_1_method_33_code (2 : Nat) (Option.none : Option FieldType)) ∈ gTW := gTW_in 448 (by decide +kernel) (by decide +kernel)
theorem w_452 : (Cond.code ({ cls := "SelfArranger$Conditions", name := "fitRow", desc := "(LSelfArranger$Table;I)Z" } : MethodName) prog_4_method_6_code (4 : Nat) (Option.some FieldType.boolean)) ∈ gTW := gTW_in 452 (by decide +kernel) (by decide +kernel)
theorem w_461 : (Cond.code ({ cls := "SelfArranger$Ledger", name := "noteQuery", desc := "(LSelfArranger$Conditions;)V" } : MethodName) prog_5_method_2_code (3 : Nat) (Option.none : Option FieldType)) ∈ gTW := gTW_in 461 (by decide +kernel) (by decide +kernel)
theorem w_465 : (Cond.code ({ cls := "SelfArranger$Conditions", name := "kindsCode", desc := "()I" } : MethodName) prog_4_method_7_code (3 : Nat) (Option.some FieldType.int)) ∈ gTW := gTW_in 465 (by decide +kernel) (by decide +kernel)
theorem w_469 : (Cond.code ({ cls := "SelfArranger$Ledger", name := "placeOf", desc := "(I)I" } : MethodName) prog_5_method_3_code (3 : Nat) (Option.some FieldType.int)) ∈ gTW := gTW_in 469 (by decide +kernel) (by decide +kernel)
theorem w_473 : (Cond.code ({ cls := "SelfArranger$Conditions", name := "copy", desc := "(LSelfArranger$Conditions;)V" } : MethodName) prog_4_method_3_code (3 : Nat) (Option.none : Option FieldType)) ∈ gTW := gTW_in 473 (by decide +kernel) (by decide +kernel)
theorem w_477 : (Cond.code ({ cls := "SelfArranger$Conditions", name := "put", desc := "(IIII)V" } : MethodName) prog_4_method_2_code (5 : Nat) (Option.none : Option FieldType)) ∈ gTW := gTW_in 477 (by decide +kernel) (by decide +kernel)
theorem w_481 : (Cond.code ({ cls := "SelfArranger", name := "shapes", desc := "()I" } : MethodName) prog_1_method_13_code (1 : Nat) (Option.some FieldType.int)) ∈ gTW := gTW_in 481 (by decide +kernel) (by decide +kernel)
theorem w_485 : (Cond.code ({ cls := "SelfArranger", name := "changes", desc := "()I" } : MethodName) prog_1_method_15_code (1 : Nat) (Option.some FieldType.int)) ∈ gTW := gTW_in 485 (by decide +kernel) (by decide +kernel)
theorem w_489 : (Cond.code ({ cls := "SelfArranger", name := "period", desc := "()I" } : MethodName) prog_1_method_16_code (1 : Nat) (Option.some FieldType.int)) ∈ gTW := gTW_in 489 (by decide +kernel) (by decide +kernel)
theorem w_493 : (Cond.code ({ cls := "SelfArranger$Ledger", name := "fade", desc := "()V" } : MethodName) prog_5_method_5_code (4 : Nat) (Option.none : Option FieldType)) ∈ gTW := gTW_in 493 (by decide +kernel) (by decide +kernel)
theorem w_496 : (Cond.code ({ cls := "SelfArranger$Ledger", name := "threeQuarters", desc := "(I)I" } : MethodName) prog_5_method_6_code (1 : Nat) (Option.some FieldType.int)) ∈ gTW := gTW_in 496 (by decide +kernel) (by decide +kernel)
theorem w_500 : (Cond.code ({ cls := "SelfArranger", name := "choose", desc := "()I" } : MethodName) prog_1_method_18_code (1 : Nat) (Option.some FieldType.int)) ∈ gTW := gTW_in 500 (by decide +kernel) (by decide +kernel)
theorem w_504 : (Cond.code ({ cls := "SelfArranger$Adviser", name := "measure", desc := "()V" } : MethodName) prog_2_method_2_code (3 : Nat) (Option.none : Option FieldType)) ∈ gTW := gTW_in 504 (by decide +kernel) (by decide +kernel)
theorem w_509 : (Cond.code ({ cls := "SelfArranger$Adviser", name := "bestSet", desc := "(I)I" } : MethodName) prog_2_method_4_code (10 : Nat) (Option.some FieldType.int)) ∈ gTW := gTW_in 509 (by decide +kernel) (by decide +kernel)
theorem w_513 : (Cond.code ({ cls := "SelfArranger$Table", name := "indexSize", desc := "()I" } : MethodName) prog_10_method_10_code (5 : Nat) (Option.some FieldType.int)) ∈ gTW := gTW_in 513 (by decide +kernel) (by decide +kernel)
theorem w_518 : (Cond.code ({ cls := "SelfArranger$Adviser", name := "setCost", desc := "(I)J" } : MethodName) prog_2_method_3_code (6 : Nat) (Option.some FieldType.long)) ∈ gTW := gTW_in 518 (by decide +kernel) (by decide +kernel)
theorem w_522 : (Cond.code ({ cls := "SelfArranger$WayCosts", name := "least", desc := "(I)I" } : MethodName) prog_11_method_5_code (2 : Nat) (Option.some FieldType.int)) ∈ gTW := gTW_in 522 (by decide +kernel) (by decide +kernel)
theorem w_527 : (Cond.code ({ cls := "java/lang/Integer", name := "bitCount", desc := "(I)I" } : MethodName) prog_18_method_49_code (1 : Nat) (Option.some FieldType.int)) ∈ gTW := gTW_in 527 (by decide +kernel) (by decide +kernel)
theorem w_533 : (Cond.code ({ cls := "SelfArrangerLaw", name := "cell", desc := "([II)I" } : MethodName) method_2_code (2 : Nat) (Option.some FieldType.int)) ∈ gTW := gTW_in 533 (by decide +kernel) (by decide +kernel)
theorem w_542 : (Cond.code ({ cls := "SelfArranger", name := "insert", desc := "(III)I" } : MethodName) prog_1_method_2_code (5 : Nat) (Option.some FieldType.int)) ∈ gTW := gTW_in 542 (by decide +kernel) (by decide +kernel)
theorem w_545 : (Cond.code ({ cls := "SelfArranger", name := "requireValue", desc := "(I)V" } : MethodName) prog_1_method_26_code (1 : Nat) (Option.none : Option FieldType)) ∈ gTW := gTW_in 545 (by decide +kernel) (by decide +kernel)
theorem w_570 : (Cond.code ({ cls := "java/lang/Throwable", name := "<init>", desc := "()V" } : MethodName) prog_22_method_1_code (1 : Nat) (Option.none : Option FieldType)) ∈ gTW := gTW_in 570 (by decide +kernel) (by decide +kernel)
theorem w_591 : (Cond.code ({ cls := "java/lang/IllegalArgumentException", name := "<init>", desc := "(Ljava/lang/String;)V" } : MethodName) prog_15_method_2_code (2 : Nat) (Option.none : Option FieldType)) ∈ gTW := gTW_in 591 (by decide +kernel) (by decide +kernel)
theorem w_594 : (Cond.code ({ cls := "java/lang/RuntimeException", name := "<init>", desc := "(Ljava/lang/String;)V" } : MethodName) prog_20_method_2_code (2 : Nat) (Option.none : Option FieldType)) ∈ gTW := gTW_in 594 (by decide +kernel) (by decide +kernel)
theorem w_597 : (Cond.code ({ cls := "java/lang/Exception", name := "<init>", desc := "(Ljava/lang/String;)V" } : MethodName) prog_14_method_2_code (2 : Nat) (Option.none : Option FieldType)) ∈ gTW := gTW_in 597 (by decide +kernel) (by decide +kernel)
theorem w_600 : (Cond.code ({ cls := "java/lang/Throwable", name := "<init>", desc := "(Ljava/lang/String;)V" } : MethodName) prog_22_method_2_code (2 : Nat) (Option.none : Option FieldType)) ∈ gTW := gTW_in 600 (by decide +kernel) (by decide +kernel)
theorem w_618 : (Cond.code ({ cls := "SelfArranger$Table", name := "isFull", desc := "()Z" } : MethodName) prog_10_method_2_code (1 : Nat) (Option.some FieldType.boolean)) ∈ gTW := gTW_in 618 (by decide +kernel) (by decide +kernel)
theorem w_631 : (Cond.code ({ cls := "java/lang/UnsupportedOperationException", name := "<init>", desc := "(Ljava/lang/String;)V" } : MethodName) prog_23_method_2_code (2 : Nat) (Option.none : Option FieldType)) ∈ gTW := gTW_in 631 (by decide +kernel) (by decide +kernel)
theorem w_638 : (Cond.code ({ cls := "SelfArranger$Table", name := "add", desc := "(III)I" } : MethodName) prog_10_method_3_code (5 : Nat) (Option.some FieldType.int)) ∈ gTW := gTW_in 638 (by decide +kernel) (by decide +kernel)
theorem w_642 : (Cond.code ({ cls := "SelfArranger$Table", name := "put", desc := "(III)V" } : MethodName) prog_10_method_5_code (4 : Nat) (Option.none : Option FieldType)) ∈ gTW := gTW_in 642 (by decide +kernel) (by decide +kernel)
theorem w_646 : (Cond.code ({ cls := "SelfArranger", name := "noteChange", desc := "(I)V" } : MethodName) prog_1_method_27_code (2 : Nat) (Option.none : Option FieldType)) ∈ gTW := gTW_in 646 (by decide +kernel) (by decide +kernel)
theorem w_650 : (Cond.code ({ cls := "SelfArranger$Ledger", name := "noteChange", desc := "()V" } : MethodName) prog_5_method_4_code (1 : Nat) (Option.none : Option FieldType)) ∈ gTW := gTW_in 650 (by decide +kernel) (by decide +kernel)
theorem w_654 : (Cond.code ({ cls := "SelfArranger$Builder", name := "noteChange", desc := "(I)V" } : MethodName) prog_3_method_5_code (2 : Nat) (Option.none : Option FieldType)) ∈ gTW := gTW_in 654 (by decide +kernel) (by decide +kernel)
theorem w_658 : (Cond.code ({ cls := "SelfArranger$Builder", name := "isBusy", desc := "()Z" } : MethodName) prog_3_method_2_code (1 : Nat) (Option.some FieldType.boolean)) ∈ gTW := gTW_in 658 (by decide +kernel) (by decide +kernel)
theorem w_666 : (Cond.code ({ cls := "SelfArranger", name := "delete", desc := "(I)V" } : MethodName) prog_1_method_3_code (2 : Nat) (Option.none : Option FieldType)) ∈ gTW := gTW_in 666 (by decide +kernel) (by decide +kernel)
theorem w_670 : (Cond.code ({ cls := "SelfArranger", name := "requireRow", desc := "(I)V" } : MethodName) prog_1_method_23_code (2 : Nat) (Option.none : Option FieldType)) ∈ gTW := gTW_in 670 (by decide +kernel) (by decide +kernel)
theorem w_683 : (Cond.code ({ cls := "java/lang/IndexOutOfBoundsException", name := "<init>", desc := "(Ljava/lang/String;)V" } : MethodName) prog_17_method_2_code (2 : Nat) (Option.none : Option FieldType)) ∈ gTW := gTW_in 683 (by decide +kernel) (by decide +kernel)
theorem w_690 : (Cond.code ({ cls := "SelfArranger$Table", name := "remove", desc := "(I)V" } : MethodName) prog_10_method_4_code (2 : Nat) (Option.none : Option FieldType)) ∈ gTW := gTW_in 690 (by decide +kernel) (by decide +kernel)
theorem w_697 : (Cond.code ({ cls := "SelfArranger", name := "change", desc := "(III)V" } : MethodName) prog_1_method_4_code (4 : Nat) (Option.none : Option FieldType)) ∈ gTW := gTW_in 697 (by decide +kernel) (by decide +kernel)
theorem w_700 : (Cond.code ({ cls := "SelfArranger", name := "requireColumn", desc := "(I)V" } : MethodName) prog_1_method_24_code (1 : Nat) (Option.none : Option FieldType)) ∈ gTW := gTW_in 700 (by decide +kernel) (by decide +kernel)
theorem w_709 : (Cond.code ({ cls := "SelfArranger", name := "value", desc := "(II)I" } : MethodName) prog_1_method_5_code (3 : Nat) (Option.some FieldType.int)) ∈ gTW := gTW_in 709 (by decide +kernel) (by decide +kernel)
theorem w_717 : (Cond.code ({ cls := "SelfArranger", name := "where", desc := "(IIII)V" } : MethodName) prog_1_method_6_code (5 : Nat) (Option.none : Option FieldType)) ∈ gTW := gTW_in 717 (by decide +kernel) (by decide +kernel)
theorem w_726 : (Cond.code ({ cls := "SelfArranger", name := "order", desc := "(II)V" } : MethodName) prog_1_method_7_code (3 : Nat) (Option.none : Option FieldType)) ∈ gTW := gTW_in 726 (by decide +kernel) (by decide +kernel)
theorem w_734 : (Cond.code ({ cls := "SelfArranger", name := "answer", desc := "(I)I" } : MethodName) prog_1_method_9_code (2 : Nat) (Option.some FieldType.int)) ∈ gTW := gTW_in 734 (by decide +kernel) (by decide +kernel)
theorem w_742 : (Cond.code ({ cls := "SelfArranger", name := "last", desc := "(I)I" } : MethodName) prog_1_method_10_code (2 : Nat) (Option.some FieldType.int)) ∈ gTW := gTW_in 742 (by decide +kernel) (by decide +kernel)
theorem w_750 : (Cond.code ({ cls := "SelfArranger", name := "cost", desc := "(I)I" } : MethodName) prog_1_method_11_code (2 : Nat) (Option.some FieldType.int)) ∈ gTW := gTW_in 750 (by decide +kernel) (by decide +kernel)
theorem w_753 : (Cond.code ({ cls := "SelfArranger", name := "requireIndex", desc := "(I)V" } : MethodName) prog_1_method_25_code (1 : Nat) (Option.none : Option FieldType)) ∈ gTW := gTW_in 753 (by decide +kernel) (by decide +kernel)
theorem w_761 : (Cond.code ({ cls := "SelfArranger", name := "index", desc := "(II)I" } : MethodName) prog_1_method_12_code (3 : Nat) (Option.some FieldType.int)) ∈ gTW := gTW_in 761 (by decide +kernel) (by decide +kernel)
theorem w_768 : (Cond.code ({ cls := "SelfArranger$Table", name := "firstEntry", desc := "(II)I" } : MethodName) prog_10_method_11_code (5 : Nat) (Option.some FieldType.int)) ∈ gTW := gTW_in 768 (by decide +kernel) (by decide +kernel)
theorem w_777 : (Cond.code ({ cls := "SelfArranger", name := "shape", desc := "(II)I" } : MethodName) prog_1_method_14_code (4 : Nat) (Option.some FieldType.int)) ∈ gTW := gTW_in 777 (by decide +kernel) (by decide +kernel)
theorem w_788 : (Cond.code ({ cls := "SelfArranger", name := "budget", desc := "(I)V" } : MethodName) prog_1_method_17_code (2 : Nat) (Option.none : Option FieldType)) ∈ gTW := gTW_in 788 (by decide +kernel) (by decide +kernel)
theorem w_796 : (Cond.code ({ cls := "SelfArranger", name := "costOf", desc := "(I)J" } : MethodName) prog_1_method_19_code (2 : Nat) (Option.some FieldType.long)) ∈ gTW := gTW_in 796 (by decide +kernel) (by decide +kernel)
theorem w_806 : (Cond.code ({ cls := "SelfArranger", name := "build", desc := "(I)V" } : MethodName) prog_1_method_20_code (2 : Nat) (Option.none : Option FieldType)) ∈ gTW := gTW_in 806 (by decide +kernel) (by decide +kernel)
theorem w_820 : (Cond.code ({ cls := "java/lang/IllegalStateException", name := "<init>", desc := "(Ljava/lang/String;)V" } : MethodName) prog_16_method_2_code (2 : Nat) (Option.none : Option FieldType)) ∈ gTW := gTW_in 820 (by decide +kernel) (by decide +kernel)
theorem w_827 : (Cond.code ({ cls := "SelfArranger$Builder", name := "begin", desc := "(I)V" } : MethodName) prog_3_method_4_code (2 : Nat) (Option.none : Option FieldType)) ∈ gTW := gTW_in 827 (by decide +kernel) (by decide +kernel)
theorem w_831 : (Cond.code ({ cls := "SelfArranger$Builder", name := "finishIfDone", desc := "()V" } : MethodName) prog_3_method_8_code (1 : Nat) (Option.none : Option FieldType)) ∈ gTW := gTW_in 831 (by decide +kernel) (by decide +kernel)
theorem w_835 : (Cond.code ({ cls := "SelfArranger$Builder", name := "left", desc := "()I" } : MethodName) prog_3_method_7_code (1 : Nat) (Option.some FieldType.int)) ∈ gTW := gTW_in 835 (by decide +kernel) (by decide +kernel)
theorem w_842 : (Cond.code ({ cls := "SelfArranger", name := "work", desc := "(I)I" } : MethodName) prog_1_method_21_code (2 : Nat) (Option.some FieldType.int)) ∈ gTW := gTW_in 842 (by decide +kernel) (by decide +kernel)
end
section
/-! words (wip/emit.py) -/
theorem w_848 : (Cond.code ({ cls := "SelfArranger$Builder", name := "handle", desc := "(I)I" } : MethodName) prog_3_method_6_code (3 : Nat) (Option.some FieldType.int)) ∈ gTW := gTW_in 848 (by decide +kernel) (by decide +kernel)
theorem w_856 : (Cond.code ({ cls := "SelfArranger", name := "drop", desc := "(I)Z" } : MethodName) prog_1_method_22_code (2 : Nat) (Option.some FieldType.boolean)) ∈ gTW := gTW_in 856 (by decide +kernel) (by decide +kernel)
theorem w_860 : (Cond.code ({ cls := "SelfArranger$Builder", name := "discard", desc := "(I)Z" } : MethodName) prog_3_method_9_code (3 : Nat) (Option.some FieldType.boolean)) ∈ gTW := gTW_in 860 (by decide +kernel) (by decide +kernel)
theorem w_865 : (Cond.code ({ cls := "SelfArrangerModel", name := "<init>", desc := "(I)V" } : MethodName) prog_13_method_1_code (3 : Nat) (Option.none : Option FieldType)) ∈ gTW := gTW_in 865 (by decide +kernel) (by decide +kernel)
theorem w_973 : (Cond.code ({ cls := "SelfArrangerModel", name := "thrown", desc := "()I" } : MethodName) prog_13_method_2_code (1 : Nat) (Option.some FieldType.int)) ∈ gTW := gTW_in 973 (by decide +kernel) (by decide +kernel)
theorem w_977 : (Cond.code ({ cls := "SelfArrangerModel", name := "insert", desc := "(III)I" } : MethodName) prog_13_method_8_code (5 : Nat) (Option.some FieldType.int)) ∈ gTW := gTW_in 977 (by decide +kernel) (by decide +kernel)
theorem w_980 : (Cond.code ({ cls := "SelfArrangerModel", name := "isValue", desc := "(I)Z" } : MethodName) prog_13_method_3_code (1 : Nat) (Option.some FieldType.boolean)) ∈ gTW := gTW_in 980 (by decide +kernel) (by decide +kernel)
theorem w_984 : (Cond.code ({ cls := "SelfArrangerModel", name := "note", desc := "(I)V" } : MethodName) prog_13_method_7_code (2 : Nat) (Option.none : Option FieldType)) ∈ gTW := gTW_in 984 (by decide +kernel) (by decide +kernel)
theorem w_988 : (Cond.code ({ cls := "SelfArrangerModel", name := "delete", desc := "(I)V" } : MethodName) prog_13_method_9_code (2 : Nat) (Option.none : Option FieldType)) ∈ gTW := gTW_in 988 (by decide +kernel) (by decide +kernel)
theorem w_992 : (Cond.code ({ cls := "SelfArrangerModel", name := "isRow", desc := "(I)Z" } : MethodName) prog_13_method_4_code (2 : Nat) (Option.some FieldType.boolean)) ∈ gTW := gTW_in 992 (by decide +kernel) (by decide +kernel)
theorem w_996 : (Cond.code ({ cls := "SelfArrangerModel", name := "change", desc := "(III)V" } : MethodName) prog_13_method_10_code (4 : Nat) (Option.none : Option FieldType)) ∈ gTW := gTW_in 996 (by decide +kernel) (by decide +kernel)
theorem w_999 : (Cond.code ({ cls := "SelfArrangerModel", name := "isColumn", desc := "(I)Z" } : MethodName) prog_13_method_5_code (1 : Nat) (Option.some FieldType.boolean)) ∈ gTW := gTW_in 999 (by decide +kernel) (by decide +kernel)
theorem w_1003 : (Cond.code ({ cls := "SelfArrangerModel", name := "value", desc := "(II)I" } : MethodName) prog_13_method_11_code (3 : Nat) (Option.some FieldType.int)) ∈ gTW := gTW_in 1003 (by decide +kernel) (by decide +kernel)
theorem w_1007 : (Cond.code ({ cls := "SelfArrangerModel", name := "index", desc := "(II)I" } : MethodName) prog_13_method_21_code (3 : Nat) (Option.some FieldType.int)) ∈ gTW := gTW_in 1007 (by decide +kernel) (by decide +kernel)
theorem w_1010 : (Cond.code ({ cls := "SelfArrangerModel", name := "isIndex", desc := "(I)Z" } : MethodName) prog_13_method_6_code (1 : Nat) (Option.some FieldType.boolean)) ∈ gTW := gTW_in 1010 (by decide +kernel) (by decide +kernel)
theorem w_1014 : (Cond.code ({ cls := "SelfArrangerModel", name := "height", desc := "()I" } : MethodName) prog_13_method_19_code (3 : Nat) (Option.some FieldType.int)) ∈ gTW := gTW_in 1014 (by decide +kernel) (by decide +kernel)
theorem w_1018 : (Cond.code ({ cls := "SelfArrangerModel", name := "leaves", desc := "()I" } : MethodName) prog_13_method_18_code (2 : Nat) (Option.some FieldType.int)) ∈ gTW := gTW_in 1018 (by decide +kernel) (by decide +kernel)
theorem w_1022 : (Cond.code ({ cls := "SelfArrangerModel", name := "live", desc := "()I" } : MethodName) prog_13_method_16_code (3 : Nat) (Option.some FieldType.int)) ∈ gTW := gTW_in 1022 (by decide +kernel) (by decide +kernel)
theorem w_1025 : (Cond.code ({ cls := "SelfArrangerModel", name := "byFour", desc := "(I)I" } : MethodName) prog_13_method_17_code (1 : Nat) (Option.some FieldType.int)) ∈ gTW := gTW_in 1025 (by decide +kernel) (by decide +kernel)
theorem w_1029 : (Cond.code ({ cls := "SelfArrangerModel", name := "sizeOfIndex", desc := "()I" } : MethodName) prog_13_method_20_code (3 : Nat) (Option.some FieldType.int)) ∈ gTW := gTW_in 1029 (by decide +kernel) (by decide +kernel)
theorem w_1033 : (Cond.code ({ cls := "SelfArrangerModel", name := "sort", desc := "(II)V" } : MethodName) prog_13_method_15_code (5 : Nat) (Option.none : Option FieldType)) ∈ gTW := gTW_in 1033 (by decide +kernel) (by decide +kernel)
theorem w_1037 : (Cond.code ({ cls := "SelfArrangerModel", name := "isBefore", desc := "(IIII)Z" } : MethodName) prog_13_method_14_code (7 : Nat) (Option.some FieldType.boolean)) ∈ gTW := gTW_in 1037 (by decide +kernel) (by decide +kernel)
theorem w_1041 : (Cond.code ({ cls := "SelfArrangerModel", name := "of", desc := "(II)I" } : MethodName) prog_13_method_13_code (3 : Nat) (Option.some FieldType.int)) ∈ gTW := gTW_in 1041 (by decide +kernel) (by decide +kernel)
theorem w_1045 : (Cond.code ({ cls := "SelfArrangerModel", name := "cost", desc := "(I)I" } : MethodName) prog_13_method_33_code (2 : Nat) (Option.some FieldType.int)) ∈ gTW := gTW_in 1045 (by decide +kernel) (by decide +kernel)
theorem w_1049 : (Cond.code ({ cls := "SelfArrangerModel", name := "heapPages", desc := "()I" } : MethodName) prog_13_method_12_code (1 : Nat) (Option.some FieldType.int)) ∈ gTW := gTW_in 1049 (by decide +kernel) (by decide +kernel)
theorem w_1053 : (Cond.code ({ cls := "SelfArrangerModel", name := "isWay", desc := "(II)Z" } : MethodName) prog_13_method_23_code (3 : Nat) (Option.some FieldType.boolean)) ∈ gTW := gTW_in 1053 (by decide +kernel) (by decide +kernel)
theorem w_1057 : (Cond.code ({ cls := "SelfArrangerModel", name := "costBy", desc := "(II)I" } : MethodName) prog_13_method_30_code (3 : Nat) (Option.some FieldType.int)) ∈ gTW := gTW_in 1057 (by decide +kernel) (by decide +kernel)
theorem w_1061 : (Cond.code ({ cls := "SelfArrangerModel", name := "stretch", desc := "(II)V" } : MethodName) prog_13_method_27_code (3 : Nat) (Option.none : Option FieldType)) ∈ gTW := gTW_in 1061 (by decide +kernel) (by decide +kernel)
theorem w_1065 : (Cond.code ({ cls := "SelfArrangerModel", name := "isAhead", desc := "(III)Z" } : MethodName) prog_13_method_25_code (8 : Nat) (Option.some FieldType.boolean)) ∈ gTW := gTW_in 1065 (by decide +kernel) (by decide +kernel)
theorem w_1069 : (Cond.code ({ cls := "SelfArrangerModel", name := "countsSecond", desc := "(II)Z" } : MethodName) prog_13_method_24_code (4 : Nat) (Option.some FieldType.boolean)) ∈ gTW := gTW_in 1069 (by decide +kernel) (by decide +kernel)
theorem w_1073 : (Cond.code ({ cls := "SelfArrangerModel", name := "isIn", desc := "(III)Z" } : MethodName) prog_13_method_26_code (4 : Nat) (Option.some FieldType.boolean)) ∈ gTW := gTW_in 1073 (by decide +kernel) (by decide +kernel)
theorem w_1077 : (Cond.code ({ cls := "SelfArrangerModel", name := "fits", desc := "(III)Z" } : MethodName) prog_13_method_22_code (6 : Nat) (Option.some FieldType.boolean)) ∈ gTW := gTW_in 1077 (by decide +kernel) (by decide +kernel)
theorem w_1081 : (Cond.code ({ cls := "SelfArrangerModel", name := "leavesTouched", desc := "()I" } : MethodName) prog_13_method_29_code (1 : Nat) (Option.some FieldType.int)) ∈ gTW := gTW_in 1081 (by decide +kernel) (by decide +kernel)
theorem w_1085 : (Cond.code ({ cls := "SelfArrangerModel", name := "where", desc := "(IIII)V" } : MethodName) prog_13_method_34_code (5 : Nat) (Option.none : Option FieldType)) ∈ gTW := gTW_in 1085 (by decide +kernel) (by decide +kernel)
theorem w_1089 : (Cond.code ({ cls := "SelfArrangerModel", name := "order", desc := "(II)V" } : MethodName) prog_13_method_35_code (3 : Nat) (Option.none : Option FieldType)) ∈ gTW := gTW_in 1089 (by decide +kernel) (by decide +kernel)
theorem w_1093 : (Cond.code ({ cls := "SelfArrangerModel", name := "ask", desc := "()I" } : MethodName) prog_13_method_41_code (3 : Nat) (Option.some FieldType.int)) ∈ gTW := gTW_in 1093 (by decide +kernel) (by decide +kernel)
theorem w_1097 : (Cond.code ({ cls := "SelfArrangerModel", name := "wayOf", desc := "(II)I" } : MethodName) prog_13_method_31_code (8 : Nat) (Option.some FieldType.int)) ∈ gTW := gTW_in 1097 (by decide +kernel) (by decide +kernel)
theorem w_1101 : (Cond.code ({ cls := "SelfArrangerModel", name := "costOfWay", desc := "(II)I" } : MethodName) prog_13_method_32_code (3 : Nat) (Option.some FieldType.int)) ∈ gTW := gTW_in 1101 (by decide +kernel) (by decide +kernel)
theorem w_1105 : (Cond.code ({ cls := "SelfArrangerModel", name := "touch", desc := "(III)V" } : MethodName) prog_13_method_36_code (6 : Nat) (Option.none : Option FieldType)) ∈ gTW := gTW_in 1105 (by decide +kernel) (by decide +kernel)
theorem w_1109 : (Cond.code ({ cls := "SelfArrangerModel", name := "touchIndex", desc := "(I)V" } : MethodName) prog_13_method_37_code (7 : Nat) (Option.none : Option FieldType)) ∈ gTW := gTW_in 1109 (by decide +kernel) (by decide +kernel)
theorem w_1113 : (Cond.code ({ cls := "SelfArrangerModel", name := "firstLeaf", desc := "()I" } : MethodName) prog_13_method_28_code (2 : Nat) (Option.some FieldType.int)) ∈ gTW := gTW_in 1113 (by decide +kernel) (by decide +kernel)
theorem w_1117 : (Cond.code ({ cls := "SelfArrangerModel", name := "remember", desc := "()V" } : MethodName) prog_13_method_40_code (2 : Nat) (Option.none : Option FieldType)) ∈ gTW := gTW_in 1117 (by decide +kernel) (by decide +kernel)
theorem w_1121 : (Cond.code ({ cls := "SelfArrangerModel", name := "findShape", desc := "()I" } : MethodName) prog_13_method_38_code (2 : Nat) (Option.some FieldType.int)) ∈ gTW := gTW_in 1121 (by decide +kernel) (by decide +kernel)
theorem w_1125 : (Cond.code ({ cls := "SelfArrangerModel", name := "copyShape", desc := "(II)V" } : MethodName) prog_13_method_39_code (4 : Nat) (Option.none : Option FieldType)) ∈ gTW := gTW_in 1125 (by decide +kernel) (by decide +kernel)
theorem w_1129 : (Cond.code ({ cls := "SelfArrangerModel", name := "answer", desc := "(I)I" } : MethodName) prog_13_method_42_code (2 : Nat) (Option.some FieldType.int)) ∈ gTW := gTW_in 1129 (by decide +kernel) (by decide +kernel)
theorem w_1133 : (Cond.code ({ cls := "SelfArrangerModel", name := "last", desc := "(I)I" } : MethodName) prog_13_method_43_code (2 : Nat) (Option.some FieldType.int)) ∈ gTW := gTW_in 1133 (by decide +kernel) (by decide +kernel)
theorem w_1137 : (Cond.code ({ cls := "SelfArrangerModel", name := "shapes", desc := "()I" } : MethodName) prog_13_method_44_code (1 : Nat) (Option.some FieldType.int)) ∈ gTW := gTW_in 1137 (by decide +kernel) (by decide +kernel)
theorem w_1141 : (Cond.code ({ cls := "SelfArrangerModel", name := "shape", desc := "(II)I" } : MethodName) prog_13_method_45_code (4 : Nat) (Option.some FieldType.int)) ∈ gTW := gTW_in 1141 (by decide +kernel) (by decide +kernel)
theorem w_1145 : (Cond.code ({ cls := "SelfArrangerModel", name := "changes", desc := "()I" } : MethodName) prog_13_method_46_code (1 : Nat) (Option.some FieldType.int)) ∈ gTW := gTW_in 1145 (by decide +kernel) (by decide +kernel)
theorem w_1149 : (Cond.code ({ cls := "SelfArrangerModel", name := "period", desc := "()I" } : MethodName) prog_13_method_47_code (4 : Nat) (Option.some FieldType.int)) ∈ gTW := gTW_in 1149 (by decide +kernel) (by decide +kernel)
theorem w_1153 : (Cond.code ({ cls := "SelfArrangerModel", name := "budget", desc := "(I)V" } : MethodName) prog_13_method_48_code (2 : Nat) (Option.none : Option FieldType)) ∈ gTW := gTW_in 1153 (by decide +kernel) (by decide +kernel)
theorem w_1157 : (Cond.code ({ cls := "SelfArrangerModel", name := "choose", desc := "()I" } : MethodName) prog_13_method_52_code (8 : Nat) (Option.some FieldType.int)) ∈ gTW := gTW_in 1157 (by decide +kernel) (by decide +kernel)
theorem w_1161 : (Cond.code ({ cls := "SelfArrangerModel", name := "findCosts", desc := "()V" } : MethodName) prog_13_method_49_code (3 : Nat) (Option.none : Option FieldType)) ∈ gTW := gTW_in 1161 (by decide +kernel) (by decide +kernel)
theorem w_1165 : (Cond.code ({ cls := "SelfArrangerModel", name := "sumOf", desc := "(I)J" } : MethodName) prog_13_method_51_code (7 : Nat) (Option.some FieldType.long)) ∈ gTW := gTW_in 1165 (by decide +kernel) (by decide +kernel)
theorem w_1168 : (Cond.code ({ cls := "SelfArrangerModel", name := "members", desc := "(I)I" } : MethodName) prog_13_method_50_code (3 : Nat) (Option.some FieldType.int)) ∈ gTW := gTW_in 1168 (by decide +kernel) (by decide +kernel)
theorem w_1172 : (Cond.code ({ cls := "SelfArrangerModel", name := "costOf", desc := "(I)J" } : MethodName) prog_13_method_53_code (2 : Nat) (Option.some FieldType.long)) ∈ gTW := gTW_in 1172 (by decide +kernel) (by decide +kernel)
theorem w_1176 : (Cond.code ({ cls := "SelfArrangerModel", name := "build", desc := "(I)V" } : MethodName) prog_13_method_55_code (2 : Nat) (Option.none : Option FieldType)) ∈ gTW := gTW_in 1176 (by decide +kernel) (by decide +kernel)
theorem w_1180 : (Cond.code ({ cls := "SelfArrangerModel", name := "settle", desc := "()I" } : MethodName) prog_13_method_56_code (2 : Nat) (Option.some FieldType.int)) ∈ gTW := gTW_in 1180 (by decide +kernel) (by decide +kernel)
theorem w_1184 : (Cond.code ({ cls := "SelfArrangerModel", name := "leftToDo", desc := "()I" } : MethodName) prog_13_method_54_code (1 : Nat) (Option.some FieldType.int)) ∈ gTW := gTW_in 1184 (by decide +kernel) (by decide +kernel)
theorem w_1188 : (Cond.code ({ cls := "SelfArrangerModel", name := "work", desc := "(I)I" } : MethodName) prog_13_method_57_code (3 : Nat) (Option.some FieldType.int)) ∈ gTW := gTW_in 1188 (by decide +kernel) (by decide +kernel)
theorem w_1192 : (Cond.code ({ cls := "SelfArrangerModel", name := "drop", desc := "(I)Z" } : MethodName) prog_13_method_58_code (2 : Nat) (Option.some FieldType.boolean)) ∈ gTW := gTW_in 1192 (by decide +kernel) (by decide +kernel)
theorem w_536 : (Cond.codeWith ({ cls := "SelfArrangerLaw", name := "insert", desc := "(LSelfArranger;III[J)I" } : MethodName) method_3_code (6 : Nat) (Option.some FieldType.int) [((0 : Nat), (12 : Nat), (15 : Nat), (13 : Nat)), ((0 : Nat), (12 : Nat), (19 : Nat), (15 : Nat))]) ∈ gTW := gTW_in 536 (by decide +kernel) (by decide +kernel)
theorem w_661 : (Cond.codeWith ({ cls := "SelfArrangerLaw", name := "delete", desc := "(LSelfArranger;I)I" } : MethodName) method_4_code (3 : Nat) (Option.some FieldType.int) [((0 : Nat), (5 : Nat), (8 : Nat), (21 : Nat))]) ∈ gTW := gTW_in 661 (by decide +kernel) (by decide +kernel)
theorem w_693 : (Cond.codeWith ({ cls := "SelfArrangerLaw", name := "change", desc := "(LSelfArranger;III)I" } : MethodName) method_5_code (5 : Nat) (Option.some FieldType.int) [((0 : Nat), (7 : Nat), (10 : Nat), (21 : Nat)), ((0 : Nat), (7 : Nat), (14 : Nat), (13 : Nat))]) ∈ gTW := gTW_in 693 (by decide +kernel) (by decide +kernel)
theorem w_705 : (Cond.codeWith ({ cls := "SelfArrangerLaw", name := "value", desc := "(LSelfArranger;II[J)I" } : MethodName) method_6_code (5 : Nat) (Option.some FieldType.int) [((0 : Nat), (10 : Nat), (13 : Nat), (21 : Nat))]) ∈ gTW := gTW_in 705 (by decide +kernel) (by decide +kernel)
theorem w_713 : (Cond.codeWith ({ cls := "SelfArrangerLaw", name := "where", desc := "(LSelfArranger;IIII)I" } : MethodName) method_7_code (6 : Nat) (Option.some FieldType.int) [((0 : Nat), (9 : Nat), (12 : Nat), (21 : Nat)), ((0 : Nat), (9 : Nat), (16 : Nat), (13 : Nat))]) ∈ gTW := gTW_in 713 (by decide +kernel) (by decide +kernel)
theorem w_722 : (Cond.codeWith ({ cls := "SelfArrangerLaw", name := "order", desc := "(LSelfArranger;II)I" } : MethodName) method_8_code (4 : Nat) (Option.some FieldType.int) [((0 : Nat), (6 : Nat), (9 : Nat), (21 : Nat)), ((0 : Nat), (6 : Nat), (12 : Nat), (13 : Nat))]) ∈ gTW := gTW_in 722 (by decide +kernel) (by decide +kernel)
theorem w_730 : (Cond.codeWith ({ cls := "SelfArrangerLaw", name := "answer", desc := "(LSelfArranger;I[J)I" } : MethodName) method_9_code (4 : Nat) (Option.some FieldType.int) [((0 : Nat), (9 : Nat), (12 : Nat), (21 : Nat))]) ∈ gTW := gTW_in 730 (by decide +kernel) (by decide +kernel)
theorem w_738 : (Cond.codeWith ({ cls := "SelfArrangerLaw", name := "last", desc := "(LSelfArranger;I[J)I" } : MethodName) method_10_code (4 : Nat) (Option.some FieldType.int) [((0 : Nat), (9 : Nat), (12 : Nat), (21 : Nat))]) ∈ gTW := gTW_in 738 (by decide +kernel) (by decide +kernel)
theorem w_746 : (Cond.codeWith ({ cls := "SelfArrangerLaw", name := "cost", desc := "(LSelfArranger;I[J)I" } : MethodName) method_11_code (4 : Nat) (Option.some FieldType.int) [((0 : Nat), (9 : Nat), (12 : Nat), (21 : Nat))]) ∈ gTW := gTW_in 746 (by decide +kernel) (by decide +kernel)
theorem w_757 : (Cond.codeWith ({ cls := "SelfArrangerLaw", name := "index", desc := "(LSelfArranger;II[J)I" } : MethodName) method_12_code (5 : Nat) (Option.some FieldType.int) [((0 : Nat), (10 : Nat), (13 : Nat), (21 : Nat))]) ∈ gTW := gTW_in 757 (by decide +kernel) (by decide +kernel)
theorem w_773 : (Cond.codeWith ({ cls := "SelfArrangerLaw", name := "shape", desc := "(LSelfArranger;II[J)I" } : MethodName) method_13_code (5 : Nat) (Option.some FieldType.int) [((0 : Nat), (10 : Nat), (13 : Nat), (21 : Nat))]) ∈ gTW := gTW_in 773 (by decide +kernel) (by decide +kernel)
theorem w_784 : (Cond.codeWith ({ cls := "SelfArrangerLaw", name := "budget", desc := "(LSelfArranger;I)I" } : MethodName) method_14_code (3 : Nat) (Option.some FieldType.int) [((0 : Nat), (5 : Nat), (8 : Nat), (13 : Nat))]) ∈ gTW := gTW_in 784 (by decide +kernel) (by decide +kernel)
theorem w_792 : (Cond.codeWith ({ cls := "SelfArrangerLaw", name := "costOf", desc := "(LSelfArranger;I[J)I" } : MethodName) method_15_code (4 : Nat) (Option.some FieldType.int) [((0 : Nat), (8 : Nat), (11 : Nat), (13 : Nat))]) ∈ gTW := gTW_in 792 (by decide +kernel) (by decide +kernel)
theorem w_801 : (Cond.codeWith ({ cls := "SelfArrangerLaw", name := "build", desc := "(LSelfArranger;I)I" } : MethodName) method_16_code (3 : Nat) (Option.some FieldType.int) [((0 : Nat), (5 : Nat), (8 : Nat), (21 : Nat)), ((0 : Nat), (5 : Nat), (11 : Nat), (65 : Nat))]) ∈ gTW := gTW_in 801 (by decide +kernel) (by decide +kernel)
theorem w_838 : (Cond.codeWith ({ cls := "SelfArrangerLaw", name := "work", desc := "(LSelfArranger;I[J)I" } : MethodName) method_17_code (4 : Nat) (Option.some FieldType.int) [((0 : Nat), (9 : Nat), (12 : Nat), (13 : Nat)), ((0 : Nat), (9 : Nat), (15 : Nat), (65 : Nat))]) ∈ gTW := gTW_in 838 (by decide +kernel) (by decide +kernel)
theorem w_852 : (Cond.codeWith ({ cls := "SelfArrangerLaw", name := "drop", desc := "(LSelfArranger;I[J)I" } : MethodName) method_18_code (4 : Nat) (Option.some FieldType.int) [((0 : Nat), (16 : Nat), (19 : Nat), (21 : Nat))]) ∈ gTW := gTW_in 852 (by decide +kernel) (by decide +kernel)
theorem w_582 : (Cond.codeSync ({ cls := "java/lang/Throwable", name := "fillInStackTrace", desc := "()Ljava/lang/Throwable;" } : MethodName) prog_22_method_18_code (1 : Nat) (Option.some (FieldType.object "java/lang/Throwable"))) ∈ gTW := gTW_in 582 (by decide +kernel) (by decide +kernel)
theorem w_587 : (Cond.native ({ cls := "java/lang/Throwable", name := "fillInStackTrace", desc := "(I)Ljava/lang/Throwable;" } : MethodName)) ∈ gTW := gTW_in 587 (by decide +kernel) (by decide +kernel)
theorem w_136 : (Cond.static ({ cls := "java/lang/Math", name := "min", desc := "(II)I" } : MethodName)) ∈ gTW := gTW_in 136 (by decide +kernel) (by decide +kernel)
theorem w_139 : (Cond.static ({ cls := "java/lang/Math", name := "max", desc := "(II)I" } : MethodName)) ∈ gTW := gTW_in 139 (by decide +kernel) (by decide +kernel)
theorem w_310 : (Cond.static ({ cls := "SelfArranger", name := "groupsOfFour", desc := "(I)I" } : MethodName)) ∈ gTW := gTW_in 310 (by decide +kernel) (by decide +kernel)
theorem w_422 : (Cond.static ({ cls := "SelfArranger", name := "nodeAbove", desc := "(II)I" } : MethodName)) ∈ gTW := gTW_in 422 (by decide +kernel) (by decide +kernel)
theorem w_443 : (Cond.static ({ cls := "java/lang/Integer", name := "compare", desc := "(II)I" } : MethodName)) ∈ gTW := gTW_in 443 (by decide +kernel) (by decide +kernel)
theorem w_495 : (Cond.static ({ cls := "SelfArranger$Ledger", name := "threeQuarters", desc := "(I)I" } : MethodName)) ∈ gTW := gTW_in 495 (by decide +kernel) (by decide +kernel)
theorem w_526 : (Cond.static ({ cls := "java/lang/Integer", name := "bitCount", desc := "(I)I" } : MethodName)) ∈ gTW := gTW_in 526 (by decide +kernel) (by decide +kernel)
theorem w_532 : (Cond.static ({ cls := "SelfArrangerLaw", name := "cell", desc := "([II)I" } : MethodName)) ∈ gTW := gTW_in 532 (by decide +kernel) (by decide +kernel)
theorem w_535 : (Cond.static ({ cls := "SelfArrangerLaw", name := "insert", desc := "(LSelfArranger;III[J)I" } : MethodName)) ∈ gTW := gTW_in 535 (by decide +kernel) (by decide +kernel)
theorem w_544 : (Cond.static ({ cls := "SelfArranger", name := "requireValue", desc := "(I)V" } : MethodName)) ∈ gTW := gTW_in 544 (by decide +kernel) (by decide +kernel)
theorem w_660 : (Cond.static ({ cls := "SelfArrangerLaw", name := "delete", desc := "(LSelfArranger;I)I" } : MethodName)) ∈ gTW := gTW_in 660 (by decide +kernel) (by decide +kernel)
theorem w_692 : (Cond.static ({ cls := "SelfArrangerLaw", name := "change", desc := "(LSelfArranger;III)I" } : MethodName)) ∈ gTW := gTW_in 692 (by decide +kernel) (by decide +kernel)
theorem w_699 : (Cond.static ({ cls := "SelfArranger", name := "requireColumn", desc := "(I)V" } : MethodName)) ∈ gTW := gTW_in 699 (by decide +kernel) (by decide +kernel)
theorem w_704 : (Cond.static ({ cls := "SelfArrangerLaw", name := "value", desc := "(LSelfArranger;II[J)I" } : MethodName)) ∈ gTW := gTW_in 704 (by decide +kernel) (by decide +kernel)
theorem w_712 : (Cond.static ({ cls := "SelfArrangerLaw", name := "where", desc := "(LSelfArranger;IIII)I" } : MethodName)) ∈ gTW := gTW_in 712 (by decide +kernel) (by decide +kernel)
theorem w_721 : (Cond.static ({ cls := "SelfArrangerLaw", name := "order", desc := "(LSelfArranger;II)I" } : MethodName)) ∈ gTW := gTW_in 721 (by decide +kernel) (by decide +kernel)
theorem w_729 : (Cond.static ({ cls := "SelfArrangerLaw", name := "answer", desc := "(LSelfArranger;I[J)I" } : MethodName)) ∈ gTW := gTW_in 729 (by decide +kernel) (by decide +kernel)
theorem w_737 : (Cond.static ({ cls := "SelfArrangerLaw", name := "last", desc := "(LSelfArranger;I[J)I" } : MethodName)) ∈ gTW := gTW_in 737 (by decide +kernel) (by decide +kernel)
theorem w_745 : (Cond.static ({ cls := "SelfArrangerLaw", name := "cost", desc := "(LSelfArranger;I[J)I" } : MethodName)) ∈ gTW := gTW_in 745 (by decide +kernel) (by decide +kernel)
theorem w_752 : (Cond.static ({ cls := "SelfArranger", name := "requireIndex", desc := "(I)V" } : MethodName)) ∈ gTW := gTW_in 752 (by decide +kernel) (by decide +kernel)
theorem w_756 : (Cond.static ({ cls := "SelfArrangerLaw", name := "index", desc := "(LSelfArranger;II[J)I" } : MethodName)) ∈ gTW := gTW_in 756 (by decide +kernel) (by decide +kernel)
theorem w_772 : (Cond.static ({ cls := "SelfArrangerLaw", name := "shape", desc := "(LSelfArranger;II[J)I" } : MethodName)) ∈ gTW := gTW_in 772 (by decide +kernel) (by decide +kernel)
theorem w_783 : (Cond.static ({ cls := "SelfArrangerLaw", name := "budget", desc := "(LSelfArranger;I)I" } : MethodName)) ∈ gTW := gTW_in 783 (by decide +kernel) (by decide +kernel)
theorem w_791 : (Cond.static ({ cls := "SelfArrangerLaw", name := "costOf", desc := "(LSelfArranger;I[J)I" } : MethodName)) ∈ gTW := gTW_in 791 (by decide +kernel) (by decide +kernel)
theorem w_800 : (Cond.static ({ cls := "SelfArrangerLaw", name := "build", desc := "(LSelfArranger;I)I" } : MethodName)) ∈ gTW := gTW_in 800 (by decide +kernel) (by decide +kernel)
theorem w_837 : (Cond.static ({ cls := "SelfArrangerLaw", name := "work", desc := "(LSelfArranger;I[J)I" } : MethodName)) ∈ gTW := gTW_in 837 (by decide +kernel) (by decide +kernel)
theorem w_851 : (Cond.static ({ cls := "SelfArrangerLaw", name := "drop", desc := "(LSelfArranger;I[J)I" } : MethodName)) ∈ gTW := gTW_in 851 (by decide +kernel) (by decide +kernel)
theorem w_979 : (Cond.static ({ cls := "SelfArrangerModel", name := "isValue", desc := "(I)Z" } : MethodName)) ∈ gTW := gTW_in 979 (by decide +kernel) (by decide +kernel)
theorem w_998 : (Cond.static ({ cls := "SelfArrangerModel", name := "isColumn", desc := "(I)Z" } : MethodName)) ∈ gTW := gTW_in 998 (by decide +kernel) (by decide +kernel)
theorem w_1009 : (Cond.static ({ cls := "SelfArrangerModel", name := "isIndex", desc := "(I)Z" } : MethodName)) ∈ gTW := gTW_in 1009 (by decide +kernel) (by decide +kernel)
theorem w_1024 : (Cond.static ({ cls := "SelfArrangerModel", name := "byFour", desc := "(I)I" } : MethodName)) ∈ gTW := gTW_in 1024 (by decide +kernel) (by decide +kernel)
theorem w_1167 : (Cond.static ({ cls := "SelfArrangerModel", name := "members", desc := "(I)I" } : MethodName)) ∈ gTW := gTW_in 1167 (by decide +kernel) (by decide +kernel)
theorem w_25 : (Cond.instanceMethod ({ cls := "SelfArranger", name := "<init>", desc := "(I)V" } : MethodName)) ∈ gTW := gTW_in 25 (by decide +kernel) (by decide +kernel)
theorem w_28 : (Cond.instanceMethod ({ cls := "java/lang/Object", name := "<init>", desc := "()V" } : MethodName)) ∈ gTW := gTW_in 28 (by decide +kernel) (by decide +kernel)
theorem w_33 : (Cond.instanceMethod ({ cls := "SelfArranger$Table", name := "<init>", desc := "()V" } : MethodName)) ∈ gTW := gTW_in 33 (by decide +kernel) (by decide +kernel)
theorem w_59 : (Cond.instanceMethod ({ cls := "SelfArranger$Conditions", name := "<init>", desc := "()V" } : MethodName)) ∈ gTW := gTW_in 59 (by decide +kernel) (by decide +kernel)
theorem w_77 : (Cond.instanceMethod ({ cls := "SelfArranger$Stretch", name := "<init>", desc := "(LSelfArranger$Table;)V" } : MethodName)) ∈ gTW := gTW_in 77 (by decide +kernel) (by decide +kernel)
theorem w_83 : (Cond.instanceMethod ({ cls := "SelfArranger$RowList", name := "<init>", desc := "()V" } : MethodName)) ∈ gTW := gTW_in 83 (by decide +kernel) (by decide +kernel)
theorem w_119 : (Cond.instanceMethod ({ cls := "SelfArranger$WayCosts", name := "<init>", desc := "()V" } : MethodName)) ∈ gTW := gTW_in 119 (by decide +kernel) (by decide +kernel)
theorem w_132 : (Cond.instanceMethod ({ cls := "SelfArranger$Pool", name := "<init>", desc := "(I)V" } : MethodName)) ∈ gTW := gTW_in 132 (by decide +kernel) (by decide +kernel)
theorem w_162 : (Cond.instanceMethod ({ cls := "SelfArranger$Ledger", name := "<init>", desc := "()V" } : MethodName)) ∈ gTW := gTW_in 162 (by decide +kernel) (by decide +kernel)
theorem w_169 : (Cond.instanceMethod ({ cls := "SelfArranger$Shape", name := "<init>", desc := "()V" } : MethodName)) ∈ gTW := gTW_in 169 (by decide +kernel) (by decide +kernel)
theorem w_212 : (Cond.instanceMethod ({ cls := "SelfArranger$Adviser", name := "<init>", desc := "(LSelfArranger$Table;LSelfArranger$Stretch;LSelfArranger$Ledger;)V" } : MethodName)) ∈ gTW := gTW_in 212 (by decide +kernel) (by decide +kernel)
theorem w_228 : (Cond.instanceMethod ({ cls := "SelfArranger$Builder", name := "<init>", desc := "(LSelfArranger$Table;)V" } : MethodName)) ∈ gTW := gTW_in 228 (by decide +kernel) (by decide +kernel)
theorem w_294 : (Cond.instanceMethod ({ cls := "SelfArranger", name := "ask", desc := "()I" } : MethodName)) ∈ gTW := gTW_in 294 (by decide +kernel) (by decide +kernel)
theorem w_299 : (Cond.instanceMethod ({ cls := "SelfArranger", name := "takeCheapestWay", desc := "()V" } : MethodName)) ∈ gTW := gTW_in 299 (by decide +kernel) (by decide +kernel)
theorem w_303 : (Cond.instanceMethod ({ cls := "SelfArranger$WayCosts", name := "measure", desc := "(LSelfArranger$Table;LSelfArranger$Stretch;LSelfArranger$Conditions;)V" } : MethodName)) ∈ gTW := gTW_in 303 (by decide +kernel) (by decide +kernel)
theorem w_307 : (Cond.instanceMethod ({ cls := "SelfArranger$Table", name := "heapPages", desc := "()I" } : MethodName)) ∈ gTW := gTW_in 307 (by decide +kernel) (by decide +kernel)
theorem w_316 : (Cond.instanceMethod ({ cls := "SelfArranger$Conditions", name := "binds", desc := "(I)Z" } : MethodName)) ∈ gTW := gTW_in 316 (by decide +kernel) (by decide +kernel)
theorem w_320 : (Cond.instanceMethod ({ cls := "SelfArranger$Stretch", name := "lay", desc := "(LSelfArranger$Conditions;I)V" } : MethodName)) ∈ gTW := gTW_in 320 (by decide +kernel) (by decide +kernel)
theorem w_328 : (Cond.instanceMethod ({ cls := "SelfArranger$Stretch", name := "place", desc := "(LSelfArranger$Conditions;I)V" } : MethodName)) ∈ gTW := gTW_in 328 (by decide +kernel) (by decide +kernel)
theorem w_332 : (Cond.instanceMethod ({ cls := "SelfArranger$Stretch", name := "isBefore", desc := "(LSelfArranger$Conditions;I)Z" } : MethodName)) ∈ gTW := gTW_in 332 (by decide +kernel) (by decide +kernel)
theorem w_336 : (Cond.instanceMethod ({ cls := "SelfArranger$Table", name := "at", desc := "(II)I" } : MethodName)) ∈ gTW := gTW_in 336 (by decide +kernel) (by decide +kernel)
theorem w_340 : (Cond.instanceMethod ({ cls := "SelfArranger$Stretch", name := "isInside", desc := "(LSelfArranger$Conditions;I)Z" } : MethodName)) ∈ gTW := gTW_in 340 (by decide +kernel) (by decide +kernel)
theorem w_344 : (Cond.instanceMethod ({ cls := "SelfArranger$Conditions", name := "fit", desc := "(II)Z" } : MethodName)) ∈ gTW := gTW_in 344 (by decide +kernel) (by decide +kernel)
theorem w_348 : (Cond.instanceMethod ({ cls := "SelfArranger$RowList", name := "append", desc := "(I)V" } : MethodName)) ∈ gTW := gTW_in 348 (by decide +kernel) (by decide +kernel)
theorem w_352 : (Cond.instanceMethod ({ cls := "SelfArranger$Stretch", name := "pages", desc := "()I" } : MethodName)) ∈ gTW := gTW_in 352 (by decide +kernel) (by decide +kernel)
theorem w_356 : (Cond.instanceMethod ({ cls := "SelfArranger$Table", name := "indexHeight", desc := "()I" } : MethodName)) ∈ gTW := gTW_in 356 (by decide +kernel) (by decide +kernel)
theorem w_360 : (Cond.instanceMethod ({ cls := "SelfArranger$Table", name := "indexLeaves", desc := "()I" } : MethodName)) ∈ gTW := gTW_in 360 (by decide +kernel) (by decide +kernel)
theorem w_365 : (Cond.instanceMethod ({ cls := "SelfArranger$Stretch", name := "leaves", desc := "()I" } : MethodName)) ∈ gTW := gTW_in 365 (by decide +kernel) (by decide +kernel)
theorem w_369 : (Cond.instanceMethod ({ cls := "SelfArranger$Builder", name := "readySet", desc := "()I" } : MethodName)) ∈ gTW := gTW_in 369 (by decide +kernel) (by decide +kernel)
theorem w_373 : (Cond.instanceMethod ({ cls := "SelfArranger$WayCosts", name := "cheapest", desc := "(I)I" } : MethodName)) ∈ gTW := gTW_in 373 (by decide +kernel) (by decide +kernel)
theorem w_377 : (Cond.instanceMethod ({ cls := "SelfArranger$WayCosts", name := "at", desc := "(I)I" } : MethodName)) ∈ gTW := gTW_in 377 (by decide +kernel) (by decide +kernel)
theorem w_382 : (Cond.instanceMethod ({ cls := "SelfArranger", name := "touchPages", desc := "()V" } : MethodName)) ∈ gTW := gTW_in 382 (by decide +kernel) (by decide +kernel)
theorem w_386 : (Cond.instanceMethod ({ cls := "SelfArranger$Pool", name := "countAnew", desc := "()V" } : MethodName)) ∈ gTW := gTW_in 386 (by decide +kernel) (by decide +kernel)
theorem w_390 : (Cond.instanceMethod ({ cls := "SelfArranger", name := "touchHeap", desc := "()V" } : MethodName)) ∈ gTW := gTW_in 390 (by decide +kernel) (by decide +kernel)
theorem w_395 : (Cond.instanceMethod ({ cls := "SelfArranger$Pool", name := "touch", desc := "(III)V" } : MethodName)) ∈ gTW := gTW_in 395 (by decide +kernel) (by decide +kernel)
theorem w_399 : (Cond.instanceMethod ({ cls := "SelfArranger$Pool", name := "frameOf", desc := "(I)I" } : MethodName)) ∈ gTW := gTW_in 399 (by decide +kernel) (by decide +kernel)
theorem w_403 : (Cond.instanceMethod ({ cls := "SelfArranger$Pool", name := "freeFrame", desc := "()I" } : MethodName)) ∈ gTW := gTW_in 403 (by decide +kernel) (by decide +kernel)
theorem w_407 : (Cond.instanceMethod ({ cls := "SelfArranger$Pool", name := "moveHand", desc := "()V" } : MethodName)) ∈ gTW := gTW_in 407 (by decide +kernel) (by decide +kernel)
theorem w_411 : (Cond.instanceMethod ({ cls := "SelfArranger", name := "touchIndex", desc := "(I)V" } : MethodName)) ∈ gTW := gTW_in 411 (by decide +kernel) (by decide +kernel)
theorem w_416 : (Cond.instanceMethod ({ cls := "SelfArranger$Stretch", name := "firstLeaf", desc := "()I" } : MethodName)) ∈ gTW := gTW_in 416 (by decide +kernel) (by decide +kernel)
theorem w_427 : (Cond.instanceMethod ({ cls := "SelfArranger$Stretch", name := "sort", desc := "()V" } : MethodName)) ∈ gTW := gTW_in 427 (by decide +kernel) (by decide +kernel)
theorem w_431 : (Cond.instanceMethod ({ cls := "SelfArranger$RowList", name := "sort", desc := "(LSelfArranger$Table;II)V" } : MethodName)) ∈ gTW := gTW_in 431 (by decide +kernel) (by decide +kernel)
theorem w_435 : (Cond.instanceMethod ({ cls := "SelfArranger$Table", name := "isAfter", desc := "(IIII)Z" } : MethodName)) ∈ gTW := gTW_in 435 (by decide +kernel) (by decide +kernel)
theorem w_439 : (Cond.instanceMethod ({ cls := "SelfArranger$Table", name := "compare", desc := "(III)I" } : MethodName)) ∈ gTW := gTW_in 439 (by decide +kernel) (by decide +kernel)
theorem w_447 : (Cond.instanceMethod ({ cls := "SelfArranger", name := "findAnswer", desc := "()V" } : MethodName)) ∈ gTW := gTW_in 447 (by decide +kernel) (by decide +kernel)
theorem w_451 : (Cond.instanceMethod ({ cls := "SelfArranger$Conditions", name := "fitRow", desc := "(LSelfArranger$Table;I)Z" } : MethodName)) ∈ gTW := gTW_in 451 (by decide +kernel) (by decide +kernel)
theorem w_460 : (Cond.instanceMethod ({ cls := "SelfArranger$Ledger", name := "noteQuery", desc := "(LSelfArranger$Conditions;)V" } : MethodName)) ∈ gTW := gTW_in 460 (by decide +kernel) (by decide +kernel)
theorem w_464 : (Cond.instanceMethod ({ cls := "SelfArranger$Conditions", name := "kindsCode", desc := "()I" } : MethodName)) ∈ gTW := gTW_in 464 (by decide +kernel) (by decide +kernel)
theorem w_468 : (Cond.instanceMethod ({ cls := "SelfArranger$Ledger", name := "placeOf", desc := "(I)I" } : MethodName)) ∈ gTW := gTW_in 468 (by decide +kernel) (by decide +kernel)
theorem w_472 : (Cond.instanceMethod ({ cls := "SelfArranger$Conditions", name := "copy", desc := "(LSelfArranger$Conditions;)V" } : MethodName)) ∈ gTW := gTW_in 472 (by decide +kernel) (by decide +kernel)
theorem w_476 : (Cond.instanceMethod ({ cls := "SelfArranger$Conditions", name := "put", desc := "(IIII)V" } : MethodName)) ∈ gTW := gTW_in 476 (by decide +kernel) (by decide +kernel)
theorem w_479 : (Cond.instanceMethod ({ cls := "SelfArranger", name := "shapes", desc := "()I" } : MethodName)) ∈ gTW := gTW_in 479 (by decide +kernel) (by decide +kernel)
theorem w_483 : (Cond.instanceMethod ({ cls := "SelfArranger", name := "changes", desc := "()I" } : MethodName)) ∈ gTW := gTW_in 483 (by decide +kernel) (by decide +kernel)
theorem w_487 : (Cond.instanceMethod ({ cls := "SelfArranger", name := "period", desc := "()I" } : MethodName)) ∈ gTW := gTW_in 487 (by decide +kernel) (by decide +kernel)
theorem w_492 : (Cond.instanceMethod ({ cls := "SelfArranger$Ledger", name := "fade", desc := "()V" } : MethodName)) ∈ gTW := gTW_in 492 (by decide +kernel) (by decide +kernel)
theorem w_498 : (Cond.instanceMethod ({ cls := "SelfArranger", name := "choose", desc := "()I" } : MethodName)) ∈ gTW := gTW_in 498 (by decide +kernel) (by decide +kernel)
theorem w_503 : (Cond.instanceMethod ({ cls := "SelfArranger$Adviser", name := "measure", desc := "()V" } : MethodName)) ∈ gTW := gTW_in 503 (by decide +kernel) (by decide +kernel)
theorem w_508 : (Cond.instanceMethod ({ cls := "SelfArranger$Adviser", name := "bestSet", desc := "(I)I" } : MethodName)) ∈ gTW := gTW_in 508 (by decide +kernel) (by decide +kernel)
theorem w_512 : (Cond.instanceMethod ({ cls := "SelfArranger$Table", name := "indexSize", desc := "()I" } : MethodName)) ∈ gTW := gTW_in 512 (by decide +kernel) (by decide +kernel)
theorem w_517 : (Cond.instanceMethod ({ cls := "SelfArranger$Adviser", name := "setCost", desc := "(I)J" } : MethodName)) ∈ gTW := gTW_in 517 (by decide +kernel) (by decide +kernel)
theorem w_521 : (Cond.instanceMethod ({ cls := "SelfArranger$WayCosts", name := "least", desc := "(I)I" } : MethodName)) ∈ gTW := gTW_in 521 (by decide +kernel) (by decide +kernel)
theorem w_540 : (Cond.instanceMethod ({ cls := "SelfArranger", name := "insert", desc := "(III)I" } : MethodName)) ∈ gTW := gTW_in 540 (by decide +kernel) (by decide +kernel)
theorem w_569 : (Cond.instanceMethod ({ cls := "java/lang/Throwable", name := "<init>", desc := "()V" } : MethodName)) ∈ gTW := gTW_in 569 (by decide +kernel) (by decide +kernel)
theorem w_577 : (Cond.instanceMethod ({ cls := "java/lang/Throwable", name := "fillInStackTrace", desc := "()Ljava/lang/Throwable;" } : MethodName)) ∈ gTW := gTW_in 577 (by decide +kernel) (by decide +kernel)
theorem w_585 : (Cond.instanceMethod ({ cls := "java/lang/Throwable", name := "fillInStackTrace", desc := "(I)Ljava/lang/Throwable;" } : MethodName)) ∈ gTW := gTW_in 585 (by decide +kernel) (by decide +kernel)
theorem w_590 : (Cond.instanceMethod ({ cls := "java/lang/IllegalArgumentException", name := "<init>", desc := "(Ljava/lang/String;)V" } : MethodName)) ∈ gTW := gTW_in 590 (by decide +kernel) (by decide +kernel)
theorem w_593 : (Cond.instanceMethod ({ cls := "java/lang/RuntimeException", name := "<init>", desc := "(Ljava/lang/String;)V" } : MethodName)) ∈ gTW := gTW_in 593 (by decide +kernel) (by decide +kernel)
theorem w_596 : (Cond.instanceMethod ({ cls := "java/lang/Exception", name := "<init>", desc := "(Ljava/lang/String;)V" } : MethodName)) ∈ gTW := gTW_in 596 (by decide +kernel) (by decide +kernel)
theorem w_599 : (Cond.instanceMethod ({ cls := "java/lang/Throwable", name := "<init>", desc := "(Ljava/lang/String;)V" } : MethodName)) ∈ gTW := gTW_in 599 (by decide +kernel) (by decide +kernel)
theorem w_617 : (Cond.instanceMethod ({ cls := "SelfArranger$Table", name := "isFull", desc := "()Z" } : MethodName)) ∈ gTW := gTW_in 617 (by decide +kernel) (by decide +kernel)
theorem w_630 : (Cond.instanceMethod ({ cls := "java/lang/UnsupportedOperationException", name := "<init>", desc := "(Ljava/lang/String;)V" } : MethodName)) ∈ gTW := gTW_in 630 (by decide +kernel) (by decide +kernel)
theorem w_637 : (Cond.instanceMethod ({ cls := "SelfArranger$Table", name := "add", desc := "(III)I" } : MethodName)) ∈ gTW := gTW_in 637 (by decide +kernel) (by decide +kernel)
theorem w_641 : (Cond.instanceMethod ({ cls := "SelfArranger$Table", name := "put", desc := "(III)V" } : MethodName)) ∈ gTW := gTW_in 641 (by decide +kernel) (by decide +kernel)
theorem w_645 : (Cond.instanceMethod ({ cls := "SelfArranger", name := "noteChange", desc := "(I)V" } : MethodName)) ∈ gTW := gTW_in 645 (by decide +kernel) (by decide +kernel)
theorem w_649 : (Cond.instanceMethod ({ cls := "SelfArranger$Ledger", name := "noteChange", desc := "()V" } : MethodName)) ∈ gTW := gTW_in 649 (by decide +kernel) (by decide +kernel)
theorem w_653 : (Cond.instanceMethod ({ cls := "SelfArranger$Builder", name := "noteChange", desc := "(I)V" } : MethodName)) ∈ gTW := gTW_in 653 (by decide +kernel) (by decide +kernel)
theorem w_657 : (Cond.instanceMethod ({ cls := "SelfArranger$Builder", name := "isBusy", desc := "()Z" } : MethodName)) ∈ gTW := gTW_in 657 (by decide +kernel) (by decide +kernel)
theorem w_664 : (Cond.instanceMethod ({ cls := "SelfArranger", name := "delete", desc := "(I)V" } : MethodName)) ∈ gTW := gTW_in 664 (by decide +kernel) (by decide +kernel)
theorem w_669 : (Cond.instanceMethod ({ cls := "SelfArranger", name := "requireRow", desc := "(I)V" } : MethodName)) ∈ gTW := gTW_in 669 (by decide +kernel) (by decide +kernel)
theorem w_682 : (Cond.instanceMethod ({ cls := "java/lang/IndexOutOfBoundsException", name := "<init>", desc := "(Ljava/lang/String;)V" } : MethodName)) ∈ gTW := gTW_in 682 (by decide +kernel) (by decide +kernel)
theorem w_689 : (Cond.instanceMethod ({ cls := "SelfArranger$Table", name := "remove", desc := "(I)V" } : MethodName)) ∈ gTW := gTW_in 689 (by decide +kernel) (by decide +kernel)
theorem w_695 : (Cond.instanceMethod ({ cls := "SelfArranger", name := "change", desc := "(III)V" } : MethodName)) ∈ gTW := gTW_in 695 (by decide +kernel) (by decide +kernel)
theorem w_707 : (Cond.instanceMethod ({ cls := "SelfArranger", name := "value", desc := "(II)I" } : MethodName)) ∈ gTW := gTW_in 707 (by decide +kernel) (by decide +kernel)
theorem w_715 : (Cond.instanceMethod ({ cls := "SelfArranger", name := "where", desc := "(IIII)V" } : MethodName)) ∈ gTW := gTW_in 715 (by decide +kernel) (by decide +kernel)
theorem w_724 : (Cond.instanceMethod ({ cls := "SelfArranger", name := "order", desc := "(II)V" } : MethodName)) ∈ gTW := gTW_in 724 (by decide +kernel) (by decide +kernel)
theorem w_732 : (Cond.instanceMethod ({ cls := "SelfArranger", name := "answer", desc := "(I)I" } : MethodName)) ∈ gTW := gTW_in 732 (by decide +kernel) (by decide +kernel)
theorem w_740 : (Cond.instanceMethod ({ cls := "SelfArranger", name := "last", desc := "(I)I" } : MethodName)) ∈ gTW := gTW_in 740 (by decide +kernel) (by decide +kernel)
theorem w_748 : (Cond.instanceMethod ({ cls := "SelfArranger", name := "cost", desc := "(I)I" } : MethodName)) ∈ gTW := gTW_in 748 (by decide +kernel) (by decide +kernel)
theorem w_759 : (Cond.instanceMethod ({ cls := "SelfArranger", name := "index", desc := "(II)I" } : MethodName)) ∈ gTW := gTW_in 759 (by decide +kernel) (by decide +kernel)
theorem w_767 : (Cond.instanceMethod ({ cls := "SelfArranger$Table", name := "firstEntry", desc := "(II)I" } : MethodName)) ∈ gTW := gTW_in 767 (by decide +kernel) (by decide +kernel)
theorem w_775 : (Cond.instanceMethod ({ cls := "SelfArranger", name := "shape", desc := "(II)I" } : MethodName)) ∈ gTW := gTW_in 775 (by decide +kernel) (by decide +kernel)
theorem w_786 : (Cond.instanceMethod ({ cls := "SelfArranger", name := "budget", desc := "(I)V" } : MethodName)) ∈ gTW := gTW_in 786 (by decide +kernel) (by decide +kernel)
theorem w_794 : (Cond.instanceMethod ({ cls := "SelfArranger", name := "costOf", desc := "(I)J" } : MethodName)) ∈ gTW := gTW_in 794 (by decide +kernel) (by decide +kernel)
theorem w_804 : (Cond.instanceMethod ({ cls := "SelfArranger", name := "build", desc := "(I)V" } : MethodName)) ∈ gTW := gTW_in 804 (by decide +kernel) (by decide +kernel)
theorem w_819 : (Cond.instanceMethod ({ cls := "java/lang/IllegalStateException", name := "<init>", desc := "(Ljava/lang/String;)V" } : MethodName)) ∈ gTW := gTW_in 819 (by decide +kernel) (by decide +kernel)
theorem w_826 : (Cond.instanceMethod ({ cls := "SelfArranger$Builder", name := "begin", desc := "(I)V" } : MethodName)) ∈ gTW := gTW_in 826 (by decide +kernel) (by decide +kernel)
theorem w_830 : (Cond.instanceMethod ({ cls := "SelfArranger$Builder", name := "finishIfDone", desc := "()V" } : MethodName)) ∈ gTW := gTW_in 830 (by decide +kernel) (by decide +kernel)
theorem w_834 : (Cond.instanceMethod ({ cls := "SelfArranger$Builder", name := "left", desc := "()I" } : MethodName)) ∈ gTW := gTW_in 834 (by decide +kernel) (by decide +kernel)
theorem w_840 : (Cond.instanceMethod ({ cls := "SelfArranger", name := "work", desc := "(I)I" } : MethodName)) ∈ gTW := gTW_in 840 (by decide +kernel) (by decide +kernel)
theorem w_847 : (Cond.instanceMethod ({ cls := "SelfArranger$Builder", name := "handle", desc := "(I)I" } : MethodName)) ∈ gTW := gTW_in 847 (by decide +kernel) (by decide +kernel)
theorem w_854 : (Cond.instanceMethod ({ cls := "SelfArranger", name := "drop", desc := "(I)Z" } : MethodName)) ∈ gTW := gTW_in 854 (by decide +kernel) (by decide +kernel)
theorem w_859 : (Cond.instanceMethod ({ cls := "SelfArranger$Builder", name := "discard", desc := "(I)Z" } : MethodName)) ∈ gTW := gTW_in 859 (by decide +kernel) (by decide +kernel)
theorem w_864 : (Cond.instanceMethod ({ cls := "SelfArrangerModel", name := "<init>", desc := "(I)V" } : MethodName)) ∈ gTW := gTW_in 864 (by decide +kernel) (by decide +kernel)
theorem w_971 : (Cond.instanceMethod ({ cls := "SelfArrangerModel", name := "thrown", desc := "()I" } : MethodName)) ∈ gTW := gTW_in 971 (by decide +kernel) (by decide +kernel)
theorem w_975 : (Cond.instanceMethod ({ cls := "SelfArrangerModel", name := "insert", desc := "(III)I" } : MethodName)) ∈ gTW := gTW_in 975 (by decide +kernel) (by decide +kernel)
theorem w_983 : (Cond.instanceMethod ({ cls := "SelfArrangerModel", name := "note", desc := "(I)V" } : MethodName)) ∈ gTW := gTW_in 983 (by decide +kernel) (by decide +kernel)
theorem w_986 : (Cond.instanceMethod ({ cls := "SelfArrangerModel", name := "delete", desc := "(I)V" } : MethodName)) ∈ gTW := gTW_in 986 (by decide +kernel) (by decide +kernel)
theorem w_991 : (Cond.instanceMethod ({ cls := "SelfArrangerModel", name := "isRow", desc := "(I)Z" } : MethodName)) ∈ gTW := gTW_in 991 (by decide +kernel) (by decide +kernel)
theorem w_994 : (Cond.instanceMethod ({ cls := "SelfArrangerModel", name := "change", desc := "(III)V" } : MethodName)) ∈ gTW := gTW_in 994 (by decide +kernel) (by decide +kernel)
theorem w_1001 : (Cond.instanceMethod ({ cls := "SelfArrangerModel", name := "value", desc := "(II)I" } : MethodName)) ∈ gTW := gTW_in 1001 (by decide +kernel) (by decide +kernel)
theorem w_1005 : (Cond.instanceMethod ({ cls := "SelfArrangerModel", name := "index", desc := "(II)I" } : MethodName)) ∈ gTW := gTW_in 1005 (by decide +kernel) (by decide +kernel)
theorem w_1013 : (Cond.instanceMethod ({ cls := "SelfArrangerModel", name := "height", desc := "()I" } : MethodName)) ∈ gTW := gTW_in 1013 (by decide +kernel) (by decide +kernel)
theorem w_1017 : (Cond.instanceMethod ({ cls := "SelfArrangerModel", name := "leaves", desc := "()I" } : MethodName)) ∈ gTW := gTW_in 1017 (by decide +kernel) (by decide +kernel)
theorem w_1021 : (Cond.instanceMethod ({ cls := "SelfArrangerModel", name := "live", desc := "()I" } : MethodName)) ∈ gTW := gTW_in 1021 (by decide +kernel) (by decide +kernel)
theorem w_1028 : (Cond.instanceMethod ({ cls := "SelfArrangerModel", name := "sizeOfIndex", desc := "()I" } : MethodName)) ∈ gTW := gTW_in 1028 (by decide +kernel) (by decide +kernel)
theorem w_1032 : (Cond.instanceMethod ({ cls := "SelfArrangerModel", name := "sort", desc := "(II)V" } : MethodName)) ∈ gTW := gTW_in 1032 (by decide +kernel) (by decide +kernel)
theorem w_1036 : (Cond.instanceMethod ({ cls := "SelfArrangerModel", name := "isBefore", desc := "(IIII)Z" } : MethodName)) ∈ gTW := gTW_in 1036 (by decide +kernel) (by decide +kernel)
theorem w_1040 : (Cond.instanceMethod ({ cls := "SelfArrangerModel", name := "of", desc := "(II)I" } : MethodName)) ∈ gTW := gTW_in 1040 (by decide +kernel) (by decide +kernel)
theorem w_1043 : (Cond.instanceMethod ({ cls := "SelfArrangerModel", name := "cost", desc := "(I)I" } : MethodName)) ∈ gTW := gTW_in 1043 (by decide +kernel) (by decide +kernel)
theorem w_1048 : (Cond.instanceMethod ({ cls := "SelfArrangerModel", name := "heapPages", desc := "()I" } : MethodName)) ∈ gTW := gTW_in 1048 (by decide +kernel) (by decide +kernel)
theorem w_1052 : (Cond.instanceMethod ({ cls := "SelfArrangerModel", name := "isWay", desc := "(II)Z" } : MethodName)) ∈ gTW := gTW_in 1052 (by decide +kernel) (by decide +kernel)
theorem w_1056 : (Cond.instanceMethod ({ cls := "SelfArrangerModel", name := "costBy", desc := "(II)I" } : MethodName)) ∈ gTW := gTW_in 1056 (by decide +kernel) (by decide +kernel)
theorem w_1060 : (Cond.instanceMethod ({ cls := "SelfArrangerModel", name := "stretch", desc := "(II)V" } : MethodName)) ∈ gTW := gTW_in 1060 (by decide +kernel) (by decide +kernel)
theorem w_1064 : (Cond.instanceMethod ({ cls := "SelfArrangerModel", name := "isAhead", desc := "(III)Z" } : MethodName)) ∈ gTW := gTW_in 1064 (by decide +kernel) (by decide +kernel)
theorem w_1068 : (Cond.instanceMethod ({ cls := "SelfArrangerModel", name := "countsSecond", desc := "(II)Z" } : MethodName)) ∈ gTW := gTW_in 1068 (by decide +kernel) (by decide +kernel)
theorem w_1072 : (Cond.instanceMethod ({ cls := "SelfArrangerModel", name := "isIn", desc := "(III)Z" } : MethodName)) ∈ gTW := gTW_in 1072 (by decide +kernel) (by decide +kernel)
theorem w_1076 : (Cond.instanceMethod ({ cls := "SelfArrangerModel", name := "fits", desc := "(III)Z" } : MethodName)) ∈ gTW := gTW_in 1076 (by decide +kernel) (by decide +kernel)
theorem w_1080 : (Cond.instanceMethod ({ cls := "SelfArrangerModel", name := "leavesTouched", desc := "()I" } : MethodName)) ∈ gTW := gTW_in 1080 (by decide +kernel) (by decide +kernel)
theorem w_1083 : (Cond.instanceMethod ({ cls := "SelfArrangerModel", name := "where", desc := "(IIII)V" } : MethodName)) ∈ gTW := gTW_in 1083 (by decide +kernel) (by decide +kernel)
theorem w_1087 : (Cond.instanceMethod ({ cls := "SelfArrangerModel", name := "order", desc := "(II)V" } : MethodName)) ∈ gTW := gTW_in 1087 (by decide +kernel) (by decide +kernel)
theorem w_1091 : (Cond.instanceMethod ({ cls := "SelfArrangerModel", name := "ask", desc := "()I" } : MethodName)) ∈ gTW := gTW_in 1091 (by decide +kernel) (by decide +kernel)
theorem w_1096 : (Cond.instanceMethod ({ cls := "SelfArrangerModel", name := "wayOf", desc := "(II)I" } : MethodName)) ∈ gTW := gTW_in 1096 (by decide +kernel) (by decide +kernel)
theorem w_1100 : (Cond.instanceMethod ({ cls := "SelfArrangerModel", name := "costOfWay", desc := "(II)I" } : MethodName)) ∈ gTW := gTW_in 1100 (by decide +kernel) (by decide +kernel)
theorem w_1104 : (Cond.instanceMethod ({ cls := "SelfArrangerModel", name := "touch", desc := "(III)V" } : MethodName)) ∈ gTW := gTW_in 1104 (by decide +kernel) (by decide +kernel)
theorem w_1108 : (Cond.instanceMethod ({ cls := "SelfArrangerModel", name := "touchIndex", desc := "(I)V" } : MethodName)) ∈ gTW := gTW_in 1108 (by decide +kernel) (by decide +kernel)
theorem w_1112 : (Cond.instanceMethod ({ cls := "SelfArrangerModel", name := "firstLeaf", desc := "()I" } : MethodName)) ∈ gTW := gTW_in 1112 (by decide +kernel) (by decide +kernel)
theorem w_1116 : (Cond.instanceMethod ({ cls := "SelfArrangerModel", name := "remember", desc := "()V" } : MethodName)) ∈ gTW := gTW_in 1116 (by decide +kernel) (by decide +kernel)
theorem w_1120 : (Cond.instanceMethod ({ cls := "SelfArrangerModel", name := "findShape", desc := "()I" } : MethodName)) ∈ gTW := gTW_in 1120 (by decide +kernel) (by decide +kernel)
theorem w_1124 : (Cond.instanceMethod ({ cls := "SelfArrangerModel", name := "copyShape", desc := "(II)V" } : MethodName)) ∈ gTW := gTW_in 1124 (by decide +kernel) (by decide +kernel)
theorem w_1127 : (Cond.instanceMethod ({ cls := "SelfArrangerModel", name := "answer", desc := "(I)I" } : MethodName)) ∈ gTW := gTW_in 1127 (by decide +kernel) (by decide +kernel)
theorem w_1131 : (Cond.instanceMethod ({ cls := "SelfArrangerModel", name := "last", desc := "(I)I" } : MethodName)) ∈ gTW := gTW_in 1131 (by decide +kernel) (by decide +kernel)
theorem w_1135 : (Cond.instanceMethod ({ cls := "SelfArrangerModel", name := "shapes", desc := "()I" } : MethodName)) ∈ gTW := gTW_in 1135 (by decide +kernel) (by decide +kernel)
theorem w_1139 : (Cond.instanceMethod ({ cls := "SelfArrangerModel", name := "shape", desc := "(II)I" } : MethodName)) ∈ gTW := gTW_in 1139 (by decide +kernel) (by decide +kernel)
theorem w_1143 : (Cond.instanceMethod ({ cls := "SelfArrangerModel", name := "changes", desc := "()I" } : MethodName)) ∈ gTW := gTW_in 1143 (by decide +kernel) (by decide +kernel)
theorem w_1147 : (Cond.instanceMethod ({ cls := "SelfArrangerModel", name := "period", desc := "()I" } : MethodName)) ∈ gTW := gTW_in 1147 (by decide +kernel) (by decide +kernel)
theorem w_1151 : (Cond.instanceMethod ({ cls := "SelfArrangerModel", name := "budget", desc := "(I)V" } : MethodName)) ∈ gTW := gTW_in 1151 (by decide +kernel) (by decide +kernel)
theorem w_1155 : (Cond.instanceMethod ({ cls := "SelfArrangerModel", name := "choose", desc := "()I" } : MethodName)) ∈ gTW := gTW_in 1155 (by decide +kernel) (by decide +kernel)
theorem w_1160 : (Cond.instanceMethod ({ cls := "SelfArrangerModel", name := "findCosts", desc := "()V" } : MethodName)) ∈ gTW := gTW_in 1160 (by decide +kernel) (by decide +kernel)
theorem w_1164 : (Cond.instanceMethod ({ cls := "SelfArrangerModel", name := "sumOf", desc := "(I)J" } : MethodName)) ∈ gTW := gTW_in 1164 (by decide +kernel) (by decide +kernel)
theorem w_1170 : (Cond.instanceMethod ({ cls := "SelfArrangerModel", name := "costOf", desc := "(I)J" } : MethodName)) ∈ gTW := gTW_in 1170 (by decide +kernel) (by decide +kernel)
theorem w_1174 : (Cond.instanceMethod ({ cls := "SelfArrangerModel", name := "build", desc := "(I)V" } : MethodName)) ∈ gTW := gTW_in 1174 (by decide +kernel) (by decide +kernel)
theorem w_1179 : (Cond.instanceMethod ({ cls := "SelfArrangerModel", name := "settle", desc := "()I" } : MethodName)) ∈ gTW := gTW_in 1179 (by decide +kernel) (by decide +kernel)
theorem w_1183 : (Cond.instanceMethod ({ cls := "SelfArrangerModel", name := "leftToDo", desc := "()I" } : MethodName)) ∈ gTW := gTW_in 1183 (by decide +kernel) (by decide +kernel)
theorem w_1186 : (Cond.instanceMethod ({ cls := "SelfArrangerModel", name := "work", desc := "(I)I" } : MethodName)) ∈ gTW := gTW_in 1186 (by decide +kernel) (by decide +kernel)
theorem w_1190 : (Cond.instanceMethod ({ cls := "SelfArrangerModel", name := "drop", desc := "(I)Z" } : MethodName)) ∈ gTW := gTW_in 1190 (by decide +kernel) (by decide +kernel)
theorem w_0 : (Cond.initialized "SelfArrangerLaw") ∈ gTW := gTW_in 0 (by decide +kernel) (by decide +kernel)
theorem w_1 : (Cond.initialized "SelfArranger") ∈ gTW := gTW_in 1 (by decide +kernel) (by decide +kernel)
theorem w_2 : (Cond.initialized "SelfArranger$Table") ∈ gTW := gTW_in 2 (by decide +kernel) (by decide +kernel)
theorem w_3 : (Cond.initialized "SelfArranger$Conditions") ∈ gTW := gTW_in 3 (by decide +kernel) (by decide +kernel)
theorem w_4 : (Cond.initialized "SelfArranger$Stretch") ∈ gTW := gTW_in 4 (by decide +kernel) (by decide +kernel)
theorem w_5 : (Cond.initialized "SelfArranger$RowList") ∈ gTW := gTW_in 5 (by decide +kernel) (by decide +kernel)
theorem w_6 : (Cond.initialized "SelfArranger$WayCosts") ∈ gTW := gTW_in 6 (by decide +kernel) (by decide +kernel)
theorem w_7 : (Cond.initialized "SelfArranger$Pool") ∈ gTW := gTW_in 7 (by decide +kernel) (by decide +kernel)
theorem w_8 : (Cond.initialized "java/lang/Math") ∈ gTW := gTW_in 8 (by decide +kernel) (by decide +kernel)
theorem w_9 : (Cond.initialized "SelfArranger$Ledger") ∈ gTW := gTW_in 9 (by decide +kernel) (by decide +kernel)
theorem w_10 : (Cond.initialized "SelfArranger$Shape") ∈ gTW := gTW_in 10 (by decide +kernel) (by decide +kernel)
theorem w_11 : (Cond.initialized "SelfArranger$Adviser") ∈ gTW := gTW_in 11 (by decide +kernel) (by decide +kernel)
theorem w_12 : (Cond.initialized "SelfArranger$Builder") ∈ gTW := gTW_in 12 (by decide +kernel) (by decide +kernel)
theorem w_13 : (Cond.initialized "SelfArrangerModel") ∈ gTW := gTW_in 13 (by decide +kernel) (by decide +kernel)
theorem w_14 : (Cond.initialized "java/lang/Throwable") ∈ gTW := gTW_in 14 (by decide +kernel) (by decide +kernel)
theorem w_15 : (Cond.initialized "java/lang/Exception") ∈ gTW := gTW_in 15 (by decide +kernel) (by decide +kernel)
theorem w_16 : (Cond.initialized "java/lang/RuntimeException") ∈ gTW := gTW_in 16 (by decide +kernel) (by decide +kernel)
theorem w_17 : (Cond.initialized "java/lang/IllegalArgumentException") ∈ gTW := gTW_in 17 (by decide +kernel) (by decide +kernel)
theorem w_18 : (Cond.initialized "java/lang/UnsupportedOperationException") ∈ gTW := gTW_in 18 (by decide +kernel) (by decide +kernel)
theorem w_19 : (Cond.initialized "java/lang/IndexOutOfBoundsException") ∈ gTW := gTW_in 19 (by decide +kernel) (by decide +kernel)
theorem w_20 : (Cond.initialized "java/lang/Integer") ∈ gTW := gTW_in 20 (by decide +kernel) (by decide +kernel)
theorem w_21 : (Cond.initialized "java/lang/IllegalStateException") ∈ gTW := gTW_in 21 (by decide +kernel) (by decide +kernel)
theorem w_23 : (Cond.instantiable "SelfArranger" (14 : Nat)) ∈ gTW := gTW_in 23 (by decide +kernel) (by decide +kernel)
theorem w_31 : (Cond.instantiable "SelfArranger$Table" (4 : Nat)) ∈ gTW := gTW_in 31 (by decide +kernel) (by decide +kernel)
theorem w_57 : (Cond.instantiable "SelfArranger$Conditions" (3 : Nat)) ∈ gTW := gTW_in 57 (by decide +kernel) (by decide +kernel)
theorem w_75 : (Cond.instantiable "SelfArranger$Stretch" (6 : Nat)) ∈ gTW := gTW_in 75 (by decide +kernel) (by decide +kernel)
theorem w_81 : (Cond.instantiable "SelfArranger$RowList" (2 : Nat)) ∈ gTW := gTW_in 81 (by decide +kernel) (by decide +kernel)
theorem w_117 : (Cond.instantiable "SelfArranger$WayCosts" (2 : Nat)) ∈ gTW := gTW_in 117 (by decide +kernel) (by decide +kernel)
theorem w_130 : (Cond.instantiable "SelfArranger$Pool" (5 : Nat)) ∈ gTW := gTW_in 130 (by decide +kernel) (by decide +kernel)
theorem w_160 : (Cond.instantiable "SelfArranger$Ledger" (3 : Nat)) ∈ gTW := gTW_in 160 (by decide +kernel) (by decide +kernel)
theorem w_167 : (Cond.instantiable "SelfArranger$Shape" (3 : Nat)) ∈ gTW := gTW_in 167 (by decide +kernel) (by decide +kernel)
theorem w_210 : (Cond.instantiable "SelfArranger$Adviser" (3 : Nat)) ∈ gTW := gTW_in 210 (by decide +kernel) (by decide +kernel)
theorem w_226 : (Cond.instantiable "SelfArranger$Builder" (5 : Nat)) ∈ gTW := gTW_in 226 (by decide +kernel) (by decide +kernel)
theorem w_547 : (Cond.instantiable "java/lang/IllegalArgumentException" (6 : Nat)) ∈ gTW := gTW_in 547 (by decide +kernel) (by decide +kernel)
theorem w_586 : (Cond.instantiable "java/lang/Throwable" (6 : Nat)) ∈ gTW := gTW_in 586 (by decide +kernel) (by decide +kernel)
theorem w_620 : (Cond.instantiable "java/lang/UnsupportedOperationException" (6 : Nat)) ∈ gTW := gTW_in 620 (by decide +kernel) (by decide +kernel)
theorem w_672 : (Cond.instantiable "java/lang/IndexOutOfBoundsException" (6 : Nat)) ∈ gTW := gTW_in 672 (by decide +kernel) (by decide +kernel)
theorem w_809 : (Cond.instantiable "java/lang/IllegalStateException" (6 : Nat)) ∈ gTW := gTW_in 809 (by decide +kernel) (by decide +kernel)
theorem w_862 : (Cond.instantiable "SelfArrangerModel" (34 : Nat)) ∈ gTW := gTW_in 862 (by decide +kernel) (by decide +kernel)
theorem w_295 : (Cond.selects "SelfArranger" ({ cls := "SelfArranger", name := "ask", desc := "()I" } : MethodName) ({ cls := "SelfArranger", name := "ask", desc := "()I" } : MethodName)) ∈ gTW := gTW_in 295 (by decide +kernel) (by decide +kernel)
theorem w_480 : (Cond.selects "SelfArranger" ({ cls := "SelfArranger", name := "shapes", desc := "()I" } : MethodName) ({ cls := "SelfArranger", name := "shapes", desc := "()I" } : MethodName)) ∈ gTW := gTW_in 480 (by decide +kernel) (by decide +kernel)
theorem w_484 : (Cond.selects "SelfArranger" ({ cls := "SelfArranger", name := "changes", desc := "()I" } : MethodName) ({ cls := "SelfArranger", name := "changes", desc := "()I" } : MethodName)) ∈ gTW := gTW_in 484 (by decide +kernel) (by decide +kernel)
theorem w_488 : (Cond.selects "SelfArranger" ({ cls := "SelfArranger", name := "period", desc := "()I" } : MethodName) ({ cls := "SelfArranger", name := "period", desc := "()I" } : MethodName)) ∈ gTW := gTW_in 488 (by decide +kernel) (by decide +kernel)
theorem w_499 : (Cond.selects "SelfArranger" ({ cls := "SelfArranger", name := "choose", desc := "()I" } : MethodName) ({ cls := "SelfArranger", name := "choose", desc := "()I" } : MethodName)) ∈ gTW := gTW_in 499 (by decide +kernel) (by decide +kernel)
theorem w_541 : (Cond.selects "SelfArranger" ({ cls := "SelfArranger", name := "insert", desc := "(III)I" } : MethodName) ({ cls := "SelfArranger", name := "insert", desc := "(III)I" } : MethodName)) ∈ gTW := gTW_in 541 (by decide +kernel) (by decide +kernel)
theorem w_555 : (Cond.selects "java/lang/IllegalArgumentException" ({ cls := "java/lang/Throwable", name := "fillInStackTrace", desc := "(I)Ljava/lang/Throwable;" } : MethodName) ({ cls := "java/lang/Throwable", name := "fillInStackTrace", desc := "(I)Ljava/lang/Throwable;" } : MethodName)) ∈ gTW := gTW_in 555 (by decide +kernel) (by decide +kernel)
theorem w_556 : (Cond.selects "java/lang/IllegalArgumentException" ({ cls := "java/lang/Throwable", name := "fillInStackTrace", desc := "()Ljava/lang/Throwable;" } : MethodName) ({ cls := "java/lang/Throwable", name := "fillInStackTrace", desc := "()Ljava/lang/Throwable;" } : MethodName)) ∈ gTW := gTW_in 556 (by decide +kernel) (by decide +kernel)
theorem w_579 : (Cond.selects "java/lang/IllegalStateException" ({ cls := "java/lang/Throwable", name := "fillInStackTrace", desc := "()Ljava/lang/Throwable;" } : MethodName) ({ cls := "java/lang/Throwable", name := "fillInStackTrace", desc := "()Ljava/lang/Throwable;" } : MethodName)) ∈ gTW := gTW_in 579 (by decide +kernel) (by decide +kernel)
theorem w_580 : (Cond.selects "java/lang/IndexOutOfBoundsException" ({ cls := "java/lang/Throwable", name := "fillInStackTrace", desc := "()Ljava/lang/Throwable;" } : MethodName) ({ cls := "java/lang/Throwable", name := "fillInStackTrace", desc := "()Ljava/lang/Throwable;" } : MethodName)) ∈ gTW := gTW_in 580 (by decide +kernel) (by decide +kernel)
theorem w_581 : (Cond.selects "java/lang/UnsupportedOperationException" ({ cls := "java/lang/Throwable", name := "fillInStackTrace", desc := "()Ljava/lang/Throwable;" } : MethodName) ({ cls := "java/lang/Throwable", name := "fillInStackTrace", desc := "()Ljava/lang/Throwable;" } : MethodName)) ∈ gTW := gTW_in 581 (by decide +kernel) (by decide +kernel)
theorem w_622 : (Cond.selects "java/lang/UnsupportedOperationException" ({ cls := "java/lang/Throwable", name := "fillInStackTrace", desc := "(I)Ljava/lang/Throwable;" } : MethodName) ({ cls := "java/lang/Throwable", name := "fillInStackTrace", desc := "(I)Ljava/lang/Throwable;" } : MethodName)) ∈ gTW := gTW_in 622 (by decide +kernel) (by decide +kernel)
theorem w_665 : (Cond.selects "SelfArranger" ({ cls := "SelfArranger", name := "delete", desc := "(I)V" } : MethodName) ({ cls := "SelfArranger", name := "delete", desc := "(I)V" } : MethodName)) ∈ gTW := gTW_in 665 (by decide +kernel) (by decide +kernel)
theorem w_674 : (Cond.selects "java/lang/IndexOutOfBoundsException" ({ cls := "java/lang/Throwable", name := "fillInStackTrace", desc := "(I)Ljava/lang/Throwable;" } : MethodName) ({ cls := "java/lang/Throwable", name := "fillInStackTrace", desc := "(I)Ljava/lang/Throwable;" } : MethodName)) ∈ gTW := gTW_in 674 (by decide +kernel) (by decide +kernel)
theorem w_696 : (Cond.selects "SelfArranger" ({ cls := "SelfArranger", name := "change", desc := "(III)V" } : MethodName) ({ cls := "SelfArranger", name := "change", desc := "(III)V" } : MethodName)) ∈ gTW := gTW_in 696 (by decide +kernel) (by decide +kernel)
theorem w_708 : (Cond.selects "SelfArranger" ({ cls := "SelfArranger", name := "value", desc := "(II)I" } : MethodName) ({ cls := "SelfArranger", name := "value", desc := "(II)I" } : MethodName)) ∈ gTW := gTW_in 708 (by decide +kernel) (by decide +kernel)
theorem w_716 : (Cond.selects "SelfArranger" ({ cls := "SelfArranger", name := "where", desc := "(IIII)V" } : MethodName) ({ cls := "SelfArranger", name := "where", desc := "(IIII)V" } : MethodName)) ∈ gTW := gTW_in 716 (by decide +kernel) (by decide +kernel)
theorem w_725 : (Cond.selects "SelfArranger" ({ cls := "SelfArranger", name := "order", desc := "(II)V" } : MethodName) ({ cls := "SelfArranger", name := "order", desc := "(II)V" } : MethodName)) ∈ gTW := gTW_in 725 (by decide +kernel) (by decide +kernel)
theorem w_733 : (Cond.selects "SelfArranger" ({ cls := "SelfArranger", name := "answer", desc := "(I)I" } : MethodName) ({ cls := "SelfArranger", name := "answer", desc := "(I)I" } : MethodName)) ∈ gTW := gTW_in 733 (by decide +kernel) (by decide +kernel)
theorem w_741 : (Cond.selects "SelfArranger" ({ cls := "SelfArranger", name := "last", desc := "(I)I" } : MethodName) ({ cls := "SelfArranger", name := "last", desc := "(I)I" } : MethodName)) ∈ gTW := gTW_in 741 (by decide +kernel) (by decide +kernel)
theorem w_749 : (Cond.selects "SelfArranger" ({ cls := "SelfArranger", name := "cost", desc := "(I)I" } : MethodName) ({ cls := "SelfArranger", name := "cost", desc := "(I)I" } : MethodName)) ∈ gTW := gTW_in 749 (by decide +kernel) (by decide +kernel)
theorem w_760 : (Cond.selects "SelfArranger" ({ cls := "SelfArranger", name := "index", desc := "(II)I" } : MethodName) ({ cls := "SelfArranger", name := "index", desc := "(II)I" } : MethodName)) ∈ gTW := gTW_in 760 (by decide +kernel) (by decide +kernel)
theorem w_776 : (Cond.selects "SelfArranger" ({ cls := "SelfArranger", name := "shape", desc := "(II)I" } : MethodName) ({ cls := "SelfArranger", name := "shape", desc := "(II)I" } : MethodName)) ∈ gTW := gTW_in 776 (by decide +kernel) (by decide +kernel)
theorem w_787 : (Cond.selects "SelfArranger" ({ cls := "SelfArranger", name := "budget", desc := "(I)V" } : MethodName) ({ cls := "SelfArranger", name := "budget", desc := "(I)V" } : MethodName)) ∈ gTW := gTW_in 787 (by decide +kernel) (by decide +kernel)
theorem w_795 : (Cond.selects "SelfArranger" ({ cls := "SelfArranger", name := "costOf", desc := "(I)J" } : MethodName) ({ cls := "SelfArranger", name := "costOf", desc := "(I)J" } : MethodName)) ∈ gTW := gTW_in 795 (by decide +kernel) (by decide +kernel)
theorem w_805 : (Cond.selects "SelfArranger" ({ cls := "SelfArranger", name := "build", desc := "(I)V" } : MethodName) ({ cls := "SelfArranger", name := "build", desc := "(I)V" } : MethodName)) ∈ gTW := gTW_in 805 (by decide +kernel) (by decide +kernel)
theorem w_811 : (Cond.selects "java/lang/IllegalStateException" ({ cls := "java/lang/Throwable", name := "fillInStackTrace", desc := "(I)Ljava/lang/Throwable;" } : MethodName) ({ cls := "java/lang/Throwable", name := "fillInStackTrace", desc := "(I)Ljava/lang/Throwable;" } : MethodName)) ∈ gTW := gTW_in 811 (by decide +kernel) (by decide +kernel)
theorem w_841 : (Cond.selects "SelfArranger" ({ cls := "SelfArranger", name := "work", desc := "(I)I" } : MethodName) ({ cls := "SelfArranger", name := "work", desc := "(I)I" } : MethodName)) ∈ gTW := gTW_in 841 (by decide +kernel) (by decide +kernel)
theorem w_855 : (Cond.selects "SelfArranger" ({ cls := "SelfArranger", name := "drop", desc := "(I)Z" } : MethodName) ({ cls := "SelfArranger", name := "drop", desc := "(I)Z" } : MethodName)) ∈ gTW := gTW_in 855 (by decide +kernel) (by decide +kernel)
theorem w_972 : (Cond.selects "SelfArrangerModel" ({ cls := "SelfArrangerModel", name := "thrown", desc := "()I" } : MethodName) ({ cls := "SelfArrangerModel", name := "thrown", desc := "()I" } : MethodName)) ∈ gTW := gTW_in 972 (by decide +kernel) (by decide +kernel)
theorem w_976 : (Cond.selects "SelfArrangerModel" ({ cls := "SelfArrangerModel", name := "insert", desc := "(III)I" } : MethodName) ({ cls := "SelfArrangerModel", name := "insert", desc := "(III)I" } : MethodName)) ∈ gTW := gTW_in 976 (by decide +kernel) (by decide +kernel)
theorem w_987 : (Cond.selects "SelfArrangerModel" ({ cls := "SelfArrangerModel", name := "delete", desc := "(I)V" } : MethodName) ({ cls := "SelfArrangerModel", name := "delete", desc := "(I)V" } : MethodName)) ∈ gTW := gTW_in 987 (by decide +kernel) (by decide +kernel)
theorem w_995 : (Cond.selects "SelfArrangerModel" ({ cls := "SelfArrangerModel", name := "change", desc := "(III)V" } : MethodName) ({ cls := "SelfArrangerModel", name := "change", desc := "(III)V" } : MethodName)) ∈ gTW := gTW_in 995 (by decide +kernel) (by decide +kernel)
theorem w_1002 : (Cond.selects "SelfArrangerModel" ({ cls := "SelfArrangerModel", name := "value", desc := "(II)I" } : MethodName) ({ cls := "SelfArrangerModel", name := "value", desc := "(II)I" } : MethodName)) ∈ gTW := gTW_in 1002 (by decide +kernel) (by decide +kernel)
theorem w_1006 : (Cond.selects "SelfArrangerModel" ({ cls := "SelfArrangerModel", name := "index", desc := "(II)I" } : MethodName) ({ cls := "SelfArrangerModel", name := "index", desc := "(II)I" } : MethodName)) ∈ gTW := gTW_in 1006 (by decide +kernel) (by decide +kernel)
theorem w_1044 : (Cond.selects "SelfArrangerModel" ({ cls := "SelfArrangerModel", name := "cost", desc := "(I)I" } : MethodName) ({ cls := "SelfArrangerModel", name := "cost", desc := "(I)I" } : MethodName)) ∈ gTW := gTW_in 1044 (by decide +kernel) (by decide +kernel)
theorem w_1084 : (Cond.selects "SelfArrangerModel" ({ cls := "SelfArrangerModel", name := "where", desc := "(IIII)V" } : MethodName) ({ cls := "SelfArrangerModel", name := "where", desc := "(IIII)V" } : MethodName)) ∈ gTW := gTW_in 1084 (by decide +kernel) (by decide +kernel)
theorem w_1088 : (Cond.selects "SelfArrangerModel" ({ cls := "SelfArrangerModel", name := "order", desc := "(II)V" } : MethodName) ({ cls := "SelfArrangerModel", name := "order", desc := "(II)V" } : MethodName)) ∈ gTW := gTW_in 1088 (by decide +kernel) (by decide +kernel)
theorem w_1092 : (Cond.selects "SelfArrangerModel" ({ cls := "SelfArrangerModel", name := "ask", desc := "()I" } : MethodName) ({ cls := "SelfArrangerModel", name := "ask", desc := "()I" } : MethodName)) ∈ gTW := gTW_in 1092 (by decide +kernel) (by decide +kernel)
theorem w_1128 : (Cond.selects "SelfArrangerModel" ({ cls := "SelfArrangerModel", name := "answer", desc := "(I)I" } : MethodName) ({ cls := "SelfArrangerModel", name := "answer", desc := "(I)I" } : MethodName)) ∈ gTW := gTW_in 1128 (by decide +kernel) (by decide +kernel)
theorem w_1132 : (Cond.selects "SelfArrangerModel" ({ cls := "SelfArrangerModel", name := "last", desc := "(I)I" } : MethodName) ({ cls := "SelfArrangerModel", name := "last", desc := "(I)I" } : MethodName)) ∈ gTW := gTW_in 1132 (by decide +kernel) (by decide +kernel)
theorem w_1136 : (Cond.selects "SelfArrangerModel" ({ cls := "SelfArrangerModel", name := "shapes", desc := "()I" } : MethodName) ({ cls := "SelfArrangerModel", name := "shapes", desc := "()I" } : MethodName)) ∈ gTW := gTW_in 1136 (by decide +kernel) (by decide +kernel)
theorem w_1140 : (Cond.selects "SelfArrangerModel" ({ cls := "SelfArrangerModel", name := "shape", desc := "(II)I" } : MethodName) ({ cls := "SelfArrangerModel", name := "shape", desc := "(II)I" } : MethodName)) ∈ gTW := gTW_in 1140 (by decide +kernel) (by decide +kernel)
theorem w_1144 : (Cond.selects "SelfArrangerModel" ({ cls := "SelfArrangerModel", name := "changes", desc := "()I" } : MethodName) ({ cls := "SelfArrangerModel", name := "changes", desc := "()I" } : MethodName)) ∈ gTW := gTW_in 1144 (by decide +kernel) (by decide +kernel)
theorem w_1148 : (Cond.selects "SelfArrangerModel" ({ cls := "SelfArrangerModel", name := "period", desc := "()I" } : MethodName) ({ cls := "SelfArrangerModel", name := "period", desc := "()I" } : MethodName)) ∈ gTW := gTW_in 1148 (by decide +kernel) (by decide +kernel)
theorem w_1152 : (Cond.selects "SelfArrangerModel" ({ cls := "SelfArrangerModel", name := "budget", desc := "(I)V" } : MethodName) ({ cls := "SelfArrangerModel", name := "budget", desc := "(I)V" } : MethodName)) ∈ gTW := gTW_in 1152 (by decide +kernel) (by decide +kernel)
theorem w_1156 : (Cond.selects "SelfArrangerModel" ({ cls := "SelfArrangerModel", name := "choose", desc := "()I" } : MethodName) ({ cls := "SelfArrangerModel", name := "choose", desc := "()I" } : MethodName)) ∈ gTW := gTW_in 1156 (by decide +kernel) (by decide +kernel)
theorem w_1171 : (Cond.selects "SelfArrangerModel" ({ cls := "SelfArrangerModel", name := "costOf", desc := "(I)J" } : MethodName) ({ cls := "SelfArrangerModel", name := "costOf", desc := "(I)J" } : MethodName)) ∈ gTW := gTW_in 1171 (by decide +kernel) (by decide +kernel)
theorem w_1175 : (Cond.selects "SelfArrangerModel" ({ cls := "SelfArrangerModel", name := "build", desc := "(I)V" } : MethodName) ({ cls := "SelfArrangerModel", name := "build", desc := "(I)V" } : MethodName)) ∈ gTW := gTW_in 1175 (by decide +kernel) (by decide +kernel)
theorem w_1187 : (Cond.selects "SelfArrangerModel" ({ cls := "SelfArrangerModel", name := "work", desc := "(I)I" } : MethodName) ({ cls := "SelfArrangerModel", name := "work", desc := "(I)I" } : MethodName)) ∈ gTW := gTW_in 1187 (by decide +kernel) (by decide +kernel)
theorem w_1191 : (Cond.selects "SelfArrangerModel" ({ cls := "SelfArrangerModel", name := "drop", desc := "(I)Z" } : MethodName) ({ cls := "SelfArrangerModel", name := "drop", desc := "(I)Z" } : MethodName)) ∈ gTW := gTW_in 1191 (by decide +kernel) (by decide +kernel)
theorem w_53 : (Cond.superclass "SelfArranger$Table" "java/lang/Object") ∈ gTW := gTW_in 53 (by decide +kernel) (by decide +kernel)
theorem w_73 : (Cond.superclass "SelfArranger$Conditions" "java/lang/Object") ∈ gTW := gTW_in 73 (by decide +kernel) (by decide +kernel)
theorem w_95 : (Cond.superclass "SelfArranger$RowList" "java/lang/Object") ∈ gTW := gTW_in 95 (by decide +kernel) (by decide +kernel)
theorem w_115 : (Cond.superclass "SelfArranger$Stretch" "java/lang/Object") ∈ gTW := gTW_in 115 (by decide +kernel) (by decide +kernel)
theorem w_128 : (Cond.superclass "SelfArranger$WayCosts" "java/lang/Object") ∈ gTW := gTW_in 128 (by decide +kernel) (by decide +kernel)
theorem w_158 : (Cond.superclass "SelfArranger$Pool" "java/lang/Object") ∈ gTW := gTW_in 158 (by decide +kernel) (by decide +kernel)
theorem w_192 : (Cond.superclass "SelfArranger$Shape" "java/lang/Object") ∈ gTW := gTW_in 192 (by decide +kernel) (by decide +kernel)
theorem w_208 : (Cond.superclass "SelfArranger$Ledger" "java/lang/Object") ∈ gTW := gTW_in 208 (by decide +kernel) (by decide +kernel)
theorem w_224 : (Cond.superclass "SelfArranger$Adviser" "java/lang/Object") ∈ gTW := gTW_in 224 (by decide +kernel) (by decide +kernel)
theorem w_247 : (Cond.superclass "SelfArranger$Builder" "java/lang/Object") ∈ gTW := gTW_in 247 (by decide +kernel) (by decide +kernel)
theorem w_292 : (Cond.superclass "SelfArranger" "java/lang/Object") ∈ gTW := gTW_in 292 (by decide +kernel) (by decide +kernel)
theorem w_568 : (Cond.superclass "java/lang/Throwable" "java/lang/Object") ∈ gTW := gTW_in 568 (by decide +kernel) (by decide +kernel)
theorem w_613 : (Cond.superclass "java/lang/IllegalArgumentException" "java/lang/RuntimeException") ∈ gTW := gTW_in 613 (by decide +kernel) (by decide +kernel)
theorem w_634 : (Cond.superclass "java/lang/UnsupportedOperationException" "java/lang/RuntimeException") ∈ gTW := gTW_in 634 (by decide +kernel) (by decide +kernel)
theorem w_686 : (Cond.superclass "java/lang/IndexOutOfBoundsException" "java/lang/RuntimeException") ∈ gTW := gTW_in 686 (by decide +kernel) (by decide +kernel)
theorem w_823 : (Cond.superclass "java/lang/IllegalStateException" "java/lang/RuntimeException") ∈ gTW := gTW_in 823 (by decide +kernel) (by decide +kernel)
theorem w_969 : (Cond.superclass "SelfArrangerModel" "java/lang/Object") ∈ gTW := gTW_in 969 (by decide +kernel) (by decide +kernel)
theorem w_548 : (Cond.castable "java/lang/IllegalArgumentException" "java/lang/IllegalArgumentException") ∈ gTW := gTW_in 548 (by decide +kernel) (by decide +kernel)
theorem w_621 : (Cond.castable "java/lang/UnsupportedOperationException" "java/lang/UnsupportedOperationException") ∈ gTW := gTW_in 621 (by decide +kernel) (by decide +kernel)
theorem w_673 : (Cond.castable "java/lang/IndexOutOfBoundsException" "java/lang/IndexOutOfBoundsException") ∈ gTW := gTW_in 673 (by decide +kernel) (by decide +kernel)
theorem w_810 : (Cond.castable "java/lang/IllegalStateException" "java/lang/IllegalStateException") ∈ gTW := gTW_in 810 (by decide +kernel) (by decide +kernel)
theorem w_549 : (Cond.declares ({ cls := "java/lang/RuntimeException", name := "<init>", desc := "()V" } : MethodName)) ∈ gTW := gTW_in 549 (by decide +kernel) (by decide +kernel)
theorem w_550 : (Cond.declares ({ cls := "java/lang/RuntimeException", name := "<init>", desc := "(Ljava/lang/String;)V" } : MethodName)) ∈ gTW := gTW_in 550 (by decide +kernel) (by decide +kernel)
theorem w_551 : (Cond.declares ({ cls := "java/lang/Exception", name := "<init>", desc := "()V" } : MethodName)) ∈ gTW := gTW_in 551 (by decide +kernel) (by decide +kernel)
theorem w_552 : (Cond.declares ({ cls := "java/lang/Exception", name := "<init>", desc := "(Ljava/lang/String;)V" } : MethodName)) ∈ gTW := gTW_in 552 (by decide +kernel) (by decide +kernel)
theorem w_553 : (Cond.declares ({ cls := "java/lang/Throwable", name := "<init>", desc := "()V" } : MethodName)) ∈ gTW := gTW_in 553 (by decide +kernel) (by decide +kernel)
theorem w_554 : (Cond.declares ({ cls := "java/lang/Throwable", name := "<init>", desc := "(Ljava/lang/String;)V" } : MethodName)) ∈ gTW := gTW_in 554 (by decide +kernel) (by decide +kernel)
theorem w_557 : (Cond.lays "java/lang/IllegalArgumentException" "java/lang/Throwable" "cause" "Ljava/lang/Throwable;") ∈ gTW := gTW_in 557 (by decide +kernel) (by decide +kernel)
theorem w_558 : (Cond.lays "java/lang/Throwable" "java/lang/Throwable" "cause" "Ljava/lang/Throwable;") ∈ gTW := gTW_in 558 (by decide +kernel) (by decide +kernel)
theorem w_559 : (Cond.lays "java/lang/IllegalArgumentException" "java/lang/Throwable" "stackTrace" "[Ljava/lang/StackTraceElement;") ∈ gTW := gTW_in 559 (by decide +kernel) (by decide +kernel)
theorem w_560 : (Cond.lays "java/lang/Throwable" "java/lang/Throwable" "stackTrace" "[Ljava/lang/StackTraceElement;") ∈ gTW := gTW_in 560 (by decide +kernel) (by decide +kernel)
theorem w_561 : (Cond.lays "java/lang/IllegalArgumentException" "java/lang/Throwable" "suppressedExceptions" "Ljava/util/List;") ∈ gTW := gTW_in 561 (by decide +kernel) (by decide +kernel)
theorem w_562 : (Cond.lays "java/lang/Throwable" "java/lang/Throwable" "suppressedExceptions" "Ljava/util/List;") ∈ gTW := gTW_in 562 (by decide +kernel) (by decide +kernel)
theorem w_563 : (Cond.lays "java/lang/IllegalArgumentException" "java/lang/Throwable" "detailMessage" "Ljava/lang/String;") ∈ gTW := gTW_in 563 (by decide +kernel) (by decide +kernel)
theorem w_564 : (Cond.lays "java/lang/Throwable" "java/lang/Throwable" "detailMessage" "Ljava/lang/String;") ∈ gTW := gTW_in 564 (by decide +kernel) (by decide +kernel)
theorem w_565 : (Cond.lays "java/lang/IllegalArgumentException" "java/lang/Throwable" "backtrace" "Ljava/lang/Object;") ∈ gTW := gTW_in 565 (by decide +kernel) (by decide +kernel)
theorem w_566 : (Cond.lays "java/lang/Throwable" "java/lang/Throwable" "backtrace" "Ljava/lang/Object;") ∈ gTW := gTW_in 566 (by decide +kernel) (by decide +kernel)
theorem w_610 : (Cond.lays "java/lang/IllegalArgumentException" "java/lang/Throwable" "depth" "I") ∈ gTW := gTW_in 610 (by decide +kernel) (by decide +kernel)
theorem w_623 : (Cond.lays "java/lang/UnsupportedOperationException" "java/lang/Throwable" "cause" "Ljava/lang/Throwable;") ∈ gTW := gTW_in 623 (by decide +kernel) (by decide +kernel)
theorem w_624 : (Cond.lays "java/lang/UnsupportedOperationException" "java/lang/Throwable" "stackTrace" "[Ljava/lang/StackTraceElement;") ∈ gTW := gTW_in 624 (by decide +kernel) (by decide +kernel)
theorem w_625 : (Cond.lays "java/lang/UnsupportedOperationException" "java/lang/Throwable" "suppressedExceptions" "Ljava/util/List;") ∈ gTW := gTW_in 625 (by decide +kernel) (by decide +kernel)
theorem w_626 : (Cond.lays "java/lang/UnsupportedOperationException" "java/lang/Throwable" "detailMessage" "Ljava/lang/String;") ∈ gTW := gTW_in 626 (by decide +kernel) (by decide +kernel)
theorem w_627 : (Cond.lays "java/lang/UnsupportedOperationException" "java/lang/Throwable" "backtrace" "Ljava/lang/Object;") ∈ gTW := gTW_in 627 (by decide +kernel) (by decide +kernel)
theorem w_633 : (Cond.lays "java/lang/UnsupportedOperationException" "java/lang/Throwable" "depth" "I") ∈ gTW := gTW_in 633 (by decide +kernel) (by decide +kernel)
theorem w_675 : (Cond.lays "java/lang/IndexOutOfBoundsException" "java/lang/Throwable" "cause" "Ljava/lang/Throwable;") ∈ gTW := gTW_in 675 (by decide +kernel) (by decide +kernel)
theorem w_676 : (Cond.lays "java/lang/IndexOutOfBoundsException" "java/lang/Throwable" "stackTrace" "[Ljava/lang/StackTraceElement;") ∈ gTW := gTW_in 676 (by decide +kernel) (by decide +kernel)
theorem w_677 : (Cond.lays "java/lang/IndexOutOfBoundsException" "java/lang/Throwable" "suppressedExceptions" "Ljava/util/List;") ∈ gTW := gTW_in 677 (by decide +kernel) (by decide +kernel)
theorem w_678 : (Cond.lays "java/lang/IndexOutOfBoundsException" "java/lang/Throwable" "detailMessage" "Ljava/lang/String;") ∈ gTW := gTW_in 678 (by decide +kernel) (by decide +kernel)
theorem w_679 : (Cond.lays "java/lang/IndexOutOfBoundsException" "java/lang/Throwable" "backtrace" "Ljava/lang/Object;") ∈ gTW := gTW_in 679 (by decide +kernel) (by decide +kernel)
theorem w_685 : (Cond.lays "java/lang/IndexOutOfBoundsException" "java/lang/Throwable" "depth" "I") ∈ gTW := gTW_in 685 (by decide +kernel) (by decide +kernel)
theorem w_812 : (Cond.lays "java/lang/IllegalStateException" "java/lang/Throwable" "cause" "Ljava/lang/Throwable;") ∈ gTW := gTW_in 812 (by decide +kernel) (by decide +kernel)
theorem w_813 : (Cond.lays "java/lang/IllegalStateException" "java/lang/Throwable" "stackTrace" "[Ljava/lang/StackTraceElement;") ∈ gTW := gTW_in 813 (by decide +kernel) (by decide +kernel)
theorem w_814 : (Cond.lays "java/lang/IllegalStateException" "java/lang/Throwable" "suppressedExceptions" "Ljava/util/List;") ∈ gTW := gTW_in 814 (by decide +kernel) (by decide +kernel)
theorem w_815 : (Cond.lays "java/lang/IllegalStateException" "java/lang/Throwable" "detailMessage" "Ljava/lang/String;") ∈ gTW := gTW_in 815 (by decide +kernel) (by decide +kernel)
theorem w_816 : (Cond.lays "java/lang/IllegalStateException" "java/lang/Throwable" "backtrace" "Ljava/lang/Object;") ∈ gTW := gTW_in 816 (by decide +kernel) (by decide +kernel)
theorem w_822 : (Cond.lays "java/lang/IllegalStateException" "java/lang/Throwable" "depth" "I") ∈ gTW := gTW_in 822 (by decide +kernel) (by decide +kernel)
theorem wp_0 : Cond.selects "SelfArranger" ⟨"SelfArranger", "takeCheapestWay", "()V"⟩ ⟨"SelfArranger", "takeCheapestWay", "()V"⟩ ∈ gTW := gTW_sel (y := ⟨"SelfArranger", "takeCheapestWay", "()V"⟩) 0 14 (by decide +kernel) (by decide +kernel)
theorem wp_1 : Cond.selects "SelfArranger$WayCosts" ⟨"SelfArranger$WayCosts", "measure", "(LSelfArranger$Table;LSelfArranger$Stretch;LSelfArranger$Conditions;)V"⟩ ⟨"SelfArranger$WayCosts", "measure", "(LSelfArranger$Table;LSelfArranger$Stretch;LSelfArranger$Conditions;)V"⟩ ∈ gTW := gTW_sel (y := ⟨"SelfArranger$WayCosts", "measure", "(LSelfArranger$Table;LSelfArranger$Stretch;LSelfArranger$Conditions;)V"⟩) 1 2 (by decide +kernel) (by decide +kernel)
theorem wp_2 : Cond.selects "SelfArranger$Table" ⟨"SelfArranger$Table", "heapPages", "()I"⟩ ⟨"SelfArranger$Table", "heapPages", "()I"⟩ ∈ gTW := gTW_sel (y := ⟨"SelfArranger$Table", "heapPages", "()I"⟩) 2 4 (by decide +kernel) (by decide +kernel)
theorem wp_3 : Cond.selects "SelfArranger$Conditions" ⟨"SelfArranger$Conditions", "binds", "(I)Z"⟩ ⟨"SelfArranger$Conditions", "binds", "(I)Z"⟩ ∈ gTW := gTW_sel (y := ⟨"SelfArranger$Conditions", "binds", "(I)Z"⟩) 3 3 (by decide +kernel) (by decide +kernel)
theorem wp_4 : Cond.selects "SelfArranger$Stretch" ⟨"SelfArranger$Stretch", "lay", "(LSelfArranger$Conditions;I)V"⟩ ⟨"SelfArranger$Stretch", "lay", "(LSelfArranger$Conditions;I)V"⟩ ∈ gTW := gTW_sel (y := ⟨"SelfArranger$Stretch", "lay", "(LSelfArranger$Conditions;I)V"⟩) 4 6 (by decide +kernel) (by decide +kernel)
theorem wp_5 : Cond.selects "SelfArranger$Stretch" ⟨"SelfArranger$Stretch", "place", "(LSelfArranger$Conditions;I)V"⟩ ⟨"SelfArranger$Stretch", "place", "(LSelfArranger$Conditions;I)V"⟩ ∈ gTW := gTW_sel (y := ⟨"SelfArranger$Stretch", "place", "(LSelfArranger$Conditions;I)V"⟩) 5 6 (by decide +kernel) (by decide +kernel)
theorem wp_6 : Cond.selects "SelfArranger$Stretch" ⟨"SelfArranger$Stretch", "isBefore", "(LSelfArranger$Conditions;I)Z"⟩ ⟨"SelfArranger$Stretch", "isBefore", "(LSelfArranger$Conditions;I)Z"⟩ ∈ gTW := gTW_sel (y := ⟨"SelfArranger$Stretch", "isBefore", "(LSelfArranger$Conditions;I)Z"⟩) 6 6 (by decide +kernel) (by decide +kernel)
theorem wp_7 : Cond.selects "SelfArranger$Table" ⟨"SelfArranger$Table", "at", "(II)I"⟩ ⟨"SelfArranger$Table", "at", "(II)I"⟩ ∈ gTW := gTW_sel (y := ⟨"SelfArranger$Table", "at", "(II)I"⟩) 7 4 (by decide +kernel) (by decide +kernel)
theorem wp_8 : Cond.selects "SelfArranger$Stretch" ⟨"SelfArranger$Stretch", "isInside", "(LSelfArranger$Conditions;I)Z"⟩ ⟨"SelfArranger$Stretch", "isInside", "(LSelfArranger$Conditions;I)Z"⟩ ∈ gTW := gTW_sel (y := ⟨"SelfArranger$Stretch", "isInside", "(LSelfArranger$Conditions;I)Z"⟩) 8 6 (by decide +kernel) (by decide +kernel)
theorem wp_9 : Cond.selects "SelfArranger$Conditions" ⟨"SelfArranger$Conditions", "fit", "(II)Z"⟩ ⟨"SelfArranger$Conditions", "fit", "(II)Z"⟩ ∈ gTW := gTW_sel (y := ⟨"SelfArranger$Conditions", "fit", "(II)Z"⟩) 9 3 (by decide +kernel) (by decide +kernel)
theorem wp_10 : Cond.selects "SelfArranger$RowList" ⟨"SelfArranger$RowList", "append", "(I)V"⟩ ⟨"SelfArranger$RowList", "append", "(I)V"⟩ ∈ gTW := gTW_sel (y := ⟨"SelfArranger$RowList", "append", "(I)V"⟩) 10 2 (by decide +kernel) (by decide +kernel)
theorem wp_11 : Cond.selects "SelfArranger$Stretch" ⟨"SelfArranger$Stretch", "pages", "()I"⟩ ⟨"SelfArranger$Stretch", "pages", "()I"⟩ ∈ gTW := gTW_sel (y := ⟨"SelfArranger$Stretch", "pages", "()I"⟩) 11 6 (by decide +kernel) (by decide +kernel)
theorem wp_12 : Cond.selects "SelfArranger$Table" ⟨"SelfArranger$Table", "indexHeight", "()I"⟩ ⟨"SelfArranger$Table", "indexHeight", "()I"⟩ ∈ gTW := gTW_sel (y := ⟨"SelfArranger$Table", "indexHeight", "()I"⟩) 12 4 (by decide +kernel) (by decide +kernel)
theorem wp_13 : Cond.selects "SelfArranger$Table" ⟨"SelfArranger$Table", "indexLeaves", "()I"⟩ ⟨"SelfArranger$Table", "indexLeaves", "()I"⟩ ∈ gTW := gTW_sel (y := ⟨"SelfArranger$Table", "indexLeaves", "()I"⟩) 13 4 (by decide +kernel) (by decide +kernel)
theorem wp_14 : Cond.selects "SelfArranger$Stretch" ⟨"SelfArranger$Stretch", "leaves", "()I"⟩ ⟨"SelfArranger$Stretch", "leaves", "()I"⟩ ∈ gTW := gTW_sel (y := ⟨"SelfArranger$Stretch", "leaves", "()I"⟩) 14 6 (by decide +kernel) (by decide +kernel)
theorem wp_15 : Cond.selects "SelfArranger$Builder" ⟨"SelfArranger$Builder", "readySet", "()I"⟩ ⟨"SelfArranger$Builder", "readySet", "()I"⟩ ∈ gTW := gTW_sel (y := ⟨"SelfArranger$Builder", "readySet", "()I"⟩) 15 5 (by decide +kernel) (by decide +kernel)
theorem wp_16 : Cond.selects "SelfArranger$WayCosts" ⟨"SelfArranger$WayCosts", "cheapest", "(I)I"⟩ ⟨"SelfArranger$WayCosts", "cheapest", "(I)I"⟩ ∈ gTW := gTW_sel (y := ⟨"SelfArranger$WayCosts", "cheapest", "(I)I"⟩) 16 2 (by decide +kernel) (by decide +kernel)
theorem wp_17 : Cond.selects "SelfArranger$WayCosts" ⟨"SelfArranger$WayCosts", "at", "(I)I"⟩ ⟨"SelfArranger$WayCosts", "at", "(I)I"⟩ ∈ gTW := gTW_sel (y := ⟨"SelfArranger$WayCosts", "at", "(I)I"⟩) 17 2 (by decide +kernel) (by decide +kernel)
theorem wp_18 : Cond.selects "SelfArranger" ⟨"SelfArranger", "touchPages", "()V"⟩ ⟨"SelfArranger", "touchPages", "()V"⟩ ∈ gTW := gTW_sel (y := ⟨"SelfArranger", "touchPages", "()V"⟩) 18 14 (by decide +kernel) (by decide +kernel)
theorem wp_19 : Cond.selects "SelfArranger$Pool" ⟨"SelfArranger$Pool", "countAnew", "()V"⟩ ⟨"SelfArranger$Pool", "countAnew", "()V"⟩ ∈ gTW := gTW_sel (y := ⟨"SelfArranger$Pool", "countAnew", "()V"⟩) 19 5 (by decide +kernel) (by decide +kernel)
theorem wp_20 : Cond.selects "SelfArranger" ⟨"SelfArranger", "touchHeap", "()V"⟩ ⟨"SelfArranger", "touchHeap", "()V"⟩ ∈ gTW := gTW_sel (y := ⟨"SelfArranger", "touchHeap", "()V"⟩) 20 14 (by decide +kernel) (by decide +kernel)
theorem wp_21 : Cond.selects "SelfArranger$Pool" ⟨"SelfArranger$Pool", "touch", "(III)V"⟩ ⟨"SelfArranger$Pool", "touch", "(III)V"⟩ ∈ gTW := gTW_sel (y := ⟨"SelfArranger$Pool", "touch", "(III)V"⟩) 21 5 (by decide +kernel) (by decide +kernel)
theorem wp_22 : Cond.selects "SelfArranger$Pool" ⟨"SelfArranger$Pool", "frameOf", "(I)I"⟩ ⟨"SelfArranger$Pool", "frameOf", "(I)I"⟩ ∈ gTW := gTW_sel (y := ⟨"SelfArranger$Pool", "frameOf", "(I)I"⟩) 22 5 (by decide +kernel) (by decide +kernel)
theorem wp_23 : Cond.selects "SelfArranger$Pool" ⟨"SelfArranger$Pool", "freeFrame", "()I"⟩ ⟨"SelfArranger$Pool", "freeFrame", "()I"⟩ ∈ gTW := gTW_sel (y := ⟨"SelfArranger$Pool", "freeFrame", "()I"⟩) 23 5 (by decide +kernel) (by decide +kernel)
theorem wp_24 : Cond.selects "SelfArranger$Pool" ⟨"SelfArranger$Pool", "moveHand", "()V"⟩ ⟨"SelfArranger$Pool", "moveHand", "()V"⟩ ∈ gTW := gTW_sel (y := ⟨"SelfArranger$Pool", "moveHand", "()V"⟩) 24 5 (by decide +kernel) (by decide +kernel)
theorem wp_25 : Cond.selects "SelfArranger" ⟨"SelfArranger", "touchIndex", "(I)V"⟩ ⟨"SelfArranger", "touchIndex", "(I)V"⟩ ∈ gTW := gTW_sel (y := ⟨"SelfArranger", "touchIndex", "(I)V"⟩) 25 14 (by decide +kernel) (by decide +kernel)
theorem wp_26 : Cond.selects "SelfArranger$Stretch" ⟨"SelfArranger$Stretch", "firstLeaf", "()I"⟩ ⟨"SelfArranger$Stretch", "firstLeaf", "()I"⟩ ∈ gTW := gTW_sel (y := ⟨"SelfArranger$Stretch", "firstLeaf", "()I"⟩) 26 6 (by decide +kernel) (by decide +kernel)
theorem wp_27 : Cond.selects "SelfArranger$Stretch" ⟨"SelfArranger$Stretch", "sort", "()V"⟩ ⟨"SelfArranger$Stretch", "sort", "()V"⟩ ∈ gTW := gTW_sel (y := ⟨"SelfArranger$Stretch", "sort", "()V"⟩) 27 6 (by decide +kernel) (by decide +kernel)
theorem wp_28 : Cond.selects "SelfArranger$RowList" ⟨"SelfArranger$RowList", "sort", "(LSelfArranger$Table;II)V"⟩ ⟨"SelfArranger$RowList", "sort", "(LSelfArranger$Table;II)V"⟩ ∈ gTW := gTW_sel (y := ⟨"SelfArranger$RowList", "sort", "(LSelfArranger$Table;II)V"⟩) 28 2 (by decide +kernel) (by decide +kernel)
theorem wp_29 : Cond.selects "SelfArranger$Table" ⟨"SelfArranger$Table", "isAfter", "(IIII)Z"⟩ ⟨"SelfArranger$Table", "isAfter", "(IIII)Z"⟩ ∈ gTW := gTW_sel (y := ⟨"SelfArranger$Table", "isAfter", "(IIII)Z"⟩) 29 4 (by decide +kernel) (by decide +kernel)
theorem wp_30 : Cond.selects "SelfArranger$Table" ⟨"SelfArranger$Table", "compare", "(III)I"⟩ ⟨"SelfArranger$Table", "compare", "(III)I"⟩ ∈ gTW := gTW_sel (y := ⟨"SelfArranger$Table", "compare", "(III)I"⟩) 30 4 (by decide +kernel) (by decide +kernel)
theorem wp_31 : Cond.selects "SelfArranger" ⟨"SelfArranger", "findAnswer", "()V"⟩ ⟨"SelfArranger", "findAnswer", "()V"⟩ ∈ gTW := gTW_sel (y := ⟨"SelfArranger", "findAnswer", "()V"⟩) 31 14 (by decide +kernel) (by decide +kernel)
theorem wp_32 : Cond.selects "SelfArranger$Conditions" ⟨"SelfArranger$Conditions", "fitRow", "(LSelfArranger$Table;I)Z"⟩ ⟨"SelfArranger$Conditions", "fitRow", "(LSelfArranger$Table;I)Z"⟩ ∈ gTW := gTW_sel (y := ⟨"SelfArranger$Conditions", "fitRow", "(LSelfArranger$Table;I)Z"⟩) 32 3 (by decide +kernel) (by decide +kernel)
theorem wp_33 : Cond.selects "SelfArranger$Ledger" ⟨"SelfArranger$Ledger", "noteQuery", "(LSelfArranger$Conditions;)V"⟩ ⟨"SelfArranger$Ledger", "noteQuery", "(LSelfArranger$Conditions;)V"⟩ ∈ gTW := gTW_sel (y := ⟨"SelfArranger$Ledger", "noteQuery", "(LSelfArranger$Conditions;)V"⟩) 33 3 (by decide +kernel) (by decide +kernel)
theorem wp_34 : Cond.selects "SelfArranger$Conditions" ⟨"SelfArranger$Conditions", "kindsCode", "()I"⟩ ⟨"SelfArranger$Conditions", "kindsCode", "()I"⟩ ∈ gTW := gTW_sel (y := ⟨"SelfArranger$Conditions", "kindsCode", "()I"⟩) 34 3 (by decide +kernel) (by decide +kernel)
theorem wp_35 : Cond.selects "SelfArranger$Ledger" ⟨"SelfArranger$Ledger", "placeOf", "(I)I"⟩ ⟨"SelfArranger$Ledger", "placeOf", "(I)I"⟩ ∈ gTW := gTW_sel (y := ⟨"SelfArranger$Ledger", "placeOf", "(I)I"⟩) 35 3 (by decide +kernel) (by decide +kernel)
theorem wp_36 : Cond.selects "SelfArranger$Conditions" ⟨"SelfArranger$Conditions", "copy", "(LSelfArranger$Conditions;)V"⟩ ⟨"SelfArranger$Conditions", "copy", "(LSelfArranger$Conditions;)V"⟩ ∈ gTW := gTW_sel (y := ⟨"SelfArranger$Conditions", "copy", "(LSelfArranger$Conditions;)V"⟩) 36 3 (by decide +kernel) (by decide +kernel)
theorem wp_37 : Cond.selects "SelfArranger$Conditions" ⟨"SelfArranger$Conditions", "put", "(IIII)V"⟩ ⟨"SelfArranger$Conditions", "put", "(IIII)V"⟩ ∈ gTW := gTW_sel (y := ⟨"SelfArranger$Conditions", "put", "(IIII)V"⟩) 37 3 (by decide +kernel) (by decide +kernel)
theorem wp_38 : Cond.selects "SelfArranger$Ledger" ⟨"SelfArranger$Ledger", "fade", "()V"⟩ ⟨"SelfArranger$Ledger", "fade", "()V"⟩ ∈ gTW := gTW_sel (y := ⟨"SelfArranger$Ledger", "fade", "()V"⟩) 38 3 (by decide +kernel) (by decide +kernel)
theorem wp_39 : Cond.selects "SelfArranger$Adviser" ⟨"SelfArranger$Adviser", "measure", "()V"⟩ ⟨"SelfArranger$Adviser", "measure", "()V"⟩ ∈ gTW := gTW_sel (y := ⟨"SelfArranger$Adviser", "measure", "()V"⟩) 39 3 (by decide +kernel) (by decide +kernel)
theorem wp_40 : Cond.selects "SelfArranger$Adviser" ⟨"SelfArranger$Adviser", "bestSet", "(I)I"⟩ ⟨"SelfArranger$Adviser", "bestSet", "(I)I"⟩ ∈ gTW := gTW_sel (y := ⟨"SelfArranger$Adviser", "bestSet", "(I)I"⟩) 40 3 (by decide +kernel) (by decide +kernel)
theorem wp_41 : Cond.selects "SelfArranger$Table" ⟨"SelfArranger$Table", "indexSize", "()I"⟩ ⟨"SelfArranger$Table", "indexSize", "()I"⟩ ∈ gTW := gTW_sel (y := ⟨"SelfArranger$Table", "indexSize", "()I"⟩) 41 4 (by decide +kernel) (by decide +kernel)
theorem wp_42 : Cond.selects "SelfArranger$Adviser" ⟨"SelfArranger$Adviser", "setCost", "(I)J"⟩ ⟨"SelfArranger$Adviser", "setCost", "(I)J"⟩ ∈ gTW := gTW_sel (y := ⟨"SelfArranger$Adviser", "setCost", "(I)J"⟩) 42 3 (by decide +kernel) (by decide +kernel)
theorem wp_43 : Cond.selects "SelfArranger$WayCosts" ⟨"SelfArranger$WayCosts", "least", "(I)I"⟩ ⟨"SelfArranger$WayCosts", "least", "(I)I"⟩ ∈ gTW := gTW_sel (y := ⟨"SelfArranger$WayCosts", "least", "(I)I"⟩) 43 2 (by decide +kernel) (by decide +kernel)
theorem wp_44 : Cond.selects "java/lang/Throwable" ⟨"java/lang/Throwable", "fillInStackTrace", "(I)Ljava/lang/Throwable;"⟩ ⟨"java/lang/Throwable", "fillInStackTrace", "(I)Ljava/lang/Throwable;"⟩ ∈ gTW := gTW_sel (y := ⟨"java/lang/Throwable", "fillInStackTrace", "(I)Ljava/lang/Throwable;"⟩) 44 6 (by decide +kernel) (by decide +kernel)
theorem wp_45 : Cond.selects "SelfArranger$Table" ⟨"SelfArranger$Table", "isFull", "()Z"⟩ ⟨"SelfArranger$Table", "isFull", "()Z"⟩ ∈ gTW := gTW_sel (y := ⟨"SelfArranger$Table", "isFull", "()Z"⟩) 45 4 (by decide +kernel) (by decide +kernel)
theorem wp_46 : Cond.selects "SelfArranger$Table" ⟨"SelfArranger$Table", "add", "(III)I"⟩ ⟨"SelfArranger$Table", "add", "(III)I"⟩ ∈ gTW := gTW_sel (y := ⟨"SelfArranger$Table", "add", "(III)I"⟩) 46 4 (by decide +kernel) (by decide +kernel)
theorem wp_47 : Cond.selects "SelfArranger$Table" ⟨"SelfArranger$Table", "put", "(III)V"⟩ ⟨"SelfArranger$Table", "put", "(III)V"⟩ ∈ gTW := gTW_sel (y := ⟨"SelfArranger$Table", "put", "(III)V"⟩) 47 4 (by decide +kernel) (by decide +kernel)
theorem wp_48 : Cond.selects "SelfArranger" ⟨"SelfArranger", "noteChange", "(I)V"⟩ ⟨"SelfArranger", "noteChange", "(I)V"⟩ ∈ gTW := gTW_sel (y := ⟨"SelfArranger", "noteChange", "(I)V"⟩) 48 14 (by decide +kernel) (by decide +kernel)
theorem wp_49 : Cond.selects "SelfArranger$Ledger" ⟨"SelfArranger$Ledger", "noteChange", "()V"⟩ ⟨"SelfArranger$Ledger", "noteChange", "()V"⟩ ∈ gTW := gTW_sel (y := ⟨"SelfArranger$Ledger", "noteChange", "()V"⟩) 49 3 (by decide +kernel) (by decide +kernel)
theorem wp_50 : Cond.selects "SelfArranger$Builder" ⟨"SelfArranger$Builder", "noteChange", "(I)V"⟩ ⟨"SelfArranger$Builder", "noteChange", "(I)V"⟩ ∈ gTW := gTW_sel (y := ⟨"SelfArranger$Builder", "noteChange", "(I)V"⟩) 50 5 (by decide +kernel) (by decide +kernel)
theorem wp_51 : Cond.selects "SelfArranger$Builder" ⟨"SelfArranger$Builder", "isBusy", "()Z"⟩ ⟨"SelfArranger$Builder", "isBusy", "()Z"⟩ ∈ gTW := gTW_sel (y := ⟨"SelfArranger$Builder", "isBusy", "()Z"⟩) 51 5 (by decide +kernel) (by decide +kernel)
theorem wp_52 : Cond.selects "SelfArranger" ⟨"SelfArranger", "requireRow", "(I)V"⟩ ⟨"SelfArranger", "requireRow", "(I)V"⟩ ∈ gTW := gTW_sel (y := ⟨"SelfArranger", "requireRow", "(I)V"⟩) 52 14 (by decide +kernel) (by decide +kernel)
theorem wp_53 : Cond.selects "SelfArranger$Table" ⟨"SelfArranger$Table", "remove", "(I)V"⟩ ⟨"SelfArranger$Table", "remove", "(I)V"⟩ ∈ gTW := gTW_sel (y := ⟨"SelfArranger$Table", "remove", "(I)V"⟩) 53 4 (by decide +kernel) (by decide +kernel)
theorem wp_54 : Cond.selects "SelfArranger$Table" ⟨"SelfArranger$Table", "firstEntry", "(II)I"⟩ ⟨"SelfArranger$Table", "firstEntry", "(II)I"⟩ ∈ gTW := gTW_sel (y := ⟨"SelfArranger$Table", "firstEntry", "(II)I"⟩) 54 4 (by decide +kernel) (by decide +kernel)
theorem wp_55 : Cond.selects "SelfArranger$Builder" ⟨"SelfArranger$Builder", "begin", "(I)V"⟩ ⟨"SelfArranger$Builder", "begin", "(I)V"⟩ ∈ gTW := gTW_sel (y := ⟨"SelfArranger$Builder", "begin", "(I)V"⟩) 55 5 (by decide +kernel) (by decide +kernel)
theorem wp_56 : Cond.selects "SelfArranger$Builder" ⟨"SelfArranger$Builder", "finishIfDone", "()V"⟩ ⟨"SelfArranger$Builder", "finishIfDone", "()V"⟩ ∈ gTW := gTW_sel (y := ⟨"SelfArranger$Builder", "finishIfDone", "()V"⟩) 56 5 (by decide +kernel) (by decide +kernel)
theorem wp_57 : Cond.selects "SelfArranger$Builder" ⟨"SelfArranger$Builder", "left", "()I"⟩ ⟨"SelfArranger$Builder", "left", "()I"⟩ ∈ gTW := gTW_sel (y := ⟨"SelfArranger$Builder", "left", "()I"⟩) 57 5 (by decide +kernel) (by decide +kernel)
theorem wp_58 : Cond.selects "SelfArranger$Builder" ⟨"SelfArranger$Builder", "handle", "(I)I"⟩ ⟨"SelfArranger$Builder", "handle", "(I)I"⟩ ∈ gTW := gTW_sel (y := ⟨"SelfArranger$Builder", "handle", "(I)I"⟩) 58 5 (by decide +kernel) (by decide +kernel)
theorem wp_59 : Cond.selects "SelfArranger$Builder" ⟨"SelfArranger$Builder", "discard", "(I)Z"⟩ ⟨"SelfArranger$Builder", "discard", "(I)Z"⟩ ∈ gTW := gTW_sel (y := ⟨"SelfArranger$Builder", "discard", "(I)Z"⟩) 59 5 (by decide +kernel) (by decide +kernel)
theorem wp_60 : Cond.selects "SelfArrangerModel" ⟨"SelfArrangerModel", "note", "(I)V"⟩ ⟨"SelfArrangerModel", "note", "(I)V"⟩ ∈ gTW := gTW_sel (y := ⟨"SelfArrangerModel", "note", "(I)V"⟩) 60 34 (by decide +kernel) (by decide +kernel)
theorem wp_61 : Cond.selects "SelfArrangerModel" ⟨"SelfArrangerModel", "isRow", "(I)Z"⟩ ⟨"SelfArrangerModel", "isRow", "(I)Z"⟩ ∈ gTW := gTW_sel (y := ⟨"SelfArrangerModel", "isRow", "(I)Z"⟩) 61 34 (by decide +kernel) (by decide +kernel)
theorem wp_62 : Cond.selects "SelfArrangerModel" ⟨"SelfArrangerModel", "height", "()I"⟩ ⟨"SelfArrangerModel", "height", "()I"⟩ ∈ gTW := gTW_sel (y := ⟨"SelfArrangerModel", "height", "()I"⟩) 62 34 (by decide +kernel) (by decide +kernel)
theorem wp_63 : Cond.selects "SelfArrangerModel" ⟨"SelfArrangerModel", "leaves", "()I"⟩ ⟨"SelfArrangerModel", "leaves", "()I"⟩ ∈ gTW := gTW_sel (y := ⟨"SelfArrangerModel", "leaves", "()I"⟩) 63 34 (by decide +kernel) (by decide +kernel)
theorem wp_64 : Cond.selects "SelfArrangerModel" ⟨"SelfArrangerModel", "live", "()I"⟩ ⟨"SelfArrangerModel", "live", "()I"⟩ ∈ gTW := gTW_sel (y := ⟨"SelfArrangerModel", "live", "()I"⟩) 64 34 (by decide +kernel) (by decide +kernel)
theorem wp_65 : Cond.selects "SelfArrangerModel" ⟨"SelfArrangerModel", "sizeOfIndex", "()I"⟩ ⟨"SelfArrangerModel", "sizeOfIndex", "()I"⟩ ∈ gTW := gTW_sel (y := ⟨"SelfArrangerModel", "sizeOfIndex", "()I"⟩) 65 34 (by decide +kernel) (by decide +kernel)
theorem wp_66 : Cond.selects "SelfArrangerModel" ⟨"SelfArrangerModel", "sort", "(II)V"⟩ ⟨"SelfArrangerModel", "sort", "(II)V"⟩ ∈ gTW := gTW_sel (y := ⟨"SelfArrangerModel", "sort", "(II)V"⟩) 66 34 (by decide +kernel) (by decide +kernel)
theorem wp_67 : Cond.selects "SelfArrangerModel" ⟨"SelfArrangerModel", "isBefore", "(IIII)Z"⟩ ⟨"SelfArrangerModel", "isBefore", "(IIII)Z"⟩ ∈ gTW := gTW_sel (y := ⟨"SelfArrangerModel", "isBefore", "(IIII)Z"⟩) 67 34 (by decide +kernel) (by decide +kernel)
theorem wp_68 : Cond.selects "SelfArrangerModel" ⟨"SelfArrangerModel", "of", "(II)I"⟩ ⟨"SelfArrangerModel", "of", "(II)I"⟩ ∈ gTW := gTW_sel (y := ⟨"SelfArrangerModel", "of", "(II)I"⟩) 68 34 (by decide +kernel) (by decide +kernel)
theorem wp_69 : Cond.selects "SelfArrangerModel" ⟨"SelfArrangerModel", "heapPages", "()I"⟩ ⟨"SelfArrangerModel", "heapPages", "()I"⟩ ∈ gTW := gTW_sel (y := ⟨"SelfArrangerModel", "heapPages", "()I"⟩) 69 34 (by decide +kernel) (by decide +kernel)
theorem wp_70 : Cond.selects "SelfArrangerModel" ⟨"SelfArrangerModel", "isWay", "(II)Z"⟩ ⟨"SelfArrangerModel", "isWay", "(II)Z"⟩ ∈ gTW := gTW_sel (y := ⟨"SelfArrangerModel", "isWay", "(II)Z"⟩) 70 34 (by decide +kernel) (by decide +kernel)
theorem wp_71 : Cond.selects "SelfArrangerModel" ⟨"SelfArrangerModel", "costBy", "(II)I"⟩ ⟨"SelfArrangerModel", "costBy", "(II)I"⟩ ∈ gTW := gTW_sel (y := ⟨"SelfArrangerModel", "costBy", "(II)I"⟩) 71 34 (by decide +kernel) (by decide +kernel)
theorem wp_72 : Cond.selects "SelfArrangerModel" ⟨"SelfArrangerModel", "stretch", "(II)V"⟩ ⟨"SelfArrangerModel", "stretch", "(II)V"⟩ ∈ gTW := gTW_sel (y := ⟨"SelfArrangerModel", "stretch", "(II)V"⟩) 72 34 (by decide +kernel) (by decide +kernel)
theorem wp_73 : Cond.selects "SelfArrangerModel" ⟨"SelfArrangerModel", "isAhead", "(III)Z"⟩ ⟨"SelfArrangerModel", "isAhead", "(III)Z"⟩ ∈ gTW := gTW_sel (y := ⟨"SelfArrangerModel", "isAhead", "(III)Z"⟩) 73 34 (by decide +kernel) (by decide +kernel)
theorem wp_74 : Cond.selects "SelfArrangerModel" ⟨"SelfArrangerModel", "countsSecond", "(II)Z"⟩ ⟨"SelfArrangerModel", "countsSecond", "(II)Z"⟩ ∈ gTW := gTW_sel (y := ⟨"SelfArrangerModel", "countsSecond", "(II)Z"⟩) 74 34 (by decide +kernel) (by decide +kernel)
theorem wp_75 : Cond.selects "SelfArrangerModel" ⟨"SelfArrangerModel", "isIn", "(III)Z"⟩ ⟨"SelfArrangerModel", "isIn", "(III)Z"⟩ ∈ gTW := gTW_sel (y := ⟨"SelfArrangerModel", "isIn", "(III)Z"⟩) 75 34 (by decide +kernel) (by decide +kernel)
theorem wp_76 : Cond.selects "SelfArrangerModel" ⟨"SelfArrangerModel", "fits", "(III)Z"⟩ ⟨"SelfArrangerModel", "fits", "(III)Z"⟩ ∈ gTW := gTW_sel (y := ⟨"SelfArrangerModel", "fits", "(III)Z"⟩) 76 34 (by decide +kernel) (by decide +kernel)
theorem wp_77 : Cond.selects "SelfArrangerModel" ⟨"SelfArrangerModel", "leavesTouched", "()I"⟩ ⟨"SelfArrangerModel", "leavesTouched", "()I"⟩ ∈ gTW := gTW_sel (y := ⟨"SelfArrangerModel", "leavesTouched", "()I"⟩) 77 34 (by decide +kernel) (by decide +kernel)
theorem wp_78 : Cond.selects "SelfArrangerModel" ⟨"SelfArrangerModel", "wayOf", "(II)I"⟩ ⟨"SelfArrangerModel", "wayOf", "(II)I"⟩ ∈ gTW := gTW_sel (y := ⟨"SelfArrangerModel", "wayOf", "(II)I"⟩) 78 34 (by decide +kernel) (by decide +kernel)
theorem wp_79 : Cond.selects "SelfArrangerModel" ⟨"SelfArrangerModel", "costOfWay", "(II)I"⟩ ⟨"SelfArrangerModel", "costOfWay", "(II)I"⟩ ∈ gTW := gTW_sel (y := ⟨"SelfArrangerModel", "costOfWay", "(II)I"⟩) 79 34 (by decide +kernel) (by decide +kernel)
theorem wp_80 : Cond.selects "SelfArrangerModel" ⟨"SelfArrangerModel", "touch", "(III)V"⟩ ⟨"SelfArrangerModel", "touch", "(III)V"⟩ ∈ gTW := gTW_sel (y := ⟨"SelfArrangerModel", "touch", "(III)V"⟩) 80 34 (by decide +kernel) (by decide +kernel)
theorem wp_81 : Cond.selects "SelfArrangerModel" ⟨"SelfArrangerModel", "touchIndex", "(I)V"⟩ ⟨"SelfArrangerModel", "touchIndex", "(I)V"⟩ ∈ gTW := gTW_sel (y := ⟨"SelfArrangerModel", "touchIndex", "(I)V"⟩) 81 34 (by decide +kernel) (by decide +kernel)
theorem wp_82 : Cond.selects "SelfArrangerModel" ⟨"SelfArrangerModel", "firstLeaf", "()I"⟩ ⟨"SelfArrangerModel", "firstLeaf", "()I"⟩ ∈ gTW := gTW_sel (y := ⟨"SelfArrangerModel", "firstLeaf", "()I"⟩) 82 34 (by decide +kernel) (by decide +kernel)
theorem wp_83 : Cond.selects "SelfArrangerModel" ⟨"SelfArrangerModel", "remember", "()V"⟩ ⟨"SelfArrangerModel", "remember", "()V"⟩ ∈ gTW := gTW_sel (y := ⟨"SelfArrangerModel", "remember", "()V"⟩) 83 34 (by decide +kernel) (by decide +kernel)
theorem wp_84 : Cond.selects "SelfArrangerModel" ⟨"SelfArrangerModel", "findShape", "()I"⟩ ⟨"SelfArrangerModel", "findShape", "()I"⟩ ∈ gTW := gTW_sel (y := ⟨"SelfArrangerModel", "findShape", "()I"⟩) 84 34 (by decide +kernel) (by decide +kernel)
theorem wp_85 : Cond.selects "SelfArrangerModel" ⟨"SelfArrangerModel", "copyShape", "(II)V"⟩ ⟨"SelfArrangerModel", "copyShape", "(II)V"⟩ ∈ gTW := gTW_sel (y := ⟨"SelfArrangerModel", "copyShape", "(II)V"⟩) 85 34 (by decide +kernel) (by decide +kernel)
theorem wp_86 : Cond.selects "SelfArrangerModel" ⟨"SelfArrangerModel", "findCosts", "()V"⟩ ⟨"SelfArrangerModel", "findCosts", "()V"⟩ ∈ gTW := gTW_sel (y := ⟨"SelfArrangerModel", "findCosts", "()V"⟩) 86 34 (by decide +kernel) (by decide +kernel)
theorem wp_87 : Cond.selects "SelfArrangerModel" ⟨"SelfArrangerModel", "sumOf", "(I)J"⟩ ⟨"SelfArrangerModel", "sumOf", "(I)J"⟩ ∈ gTW := gTW_sel (y := ⟨"SelfArrangerModel", "sumOf", "(I)J"⟩) 87 34 (by decide +kernel) (by decide +kernel)
theorem wp_88 : Cond.selects "SelfArrangerModel" ⟨"SelfArrangerModel", "settle", "()I"⟩ ⟨"SelfArrangerModel", "settle", "()I"⟩ ∈ gTW := gTW_sel (y := ⟨"SelfArrangerModel", "settle", "()I"⟩) 88 34 (by decide +kernel) (by decide +kernel)
theorem wp_89 : Cond.selects "SelfArrangerModel" ⟨"SelfArrangerModel", "leftToDo", "()I"⟩ ⟨"SelfArrangerModel", "leftToDo", "()I"⟩ ∈ gTW := gTW_sel (y := ⟨"SelfArrangerModel", "leftToDo", "()I"⟩) 89 34 (by decide +kernel) (by decide +kernel)
end
section
/-! THE JUDGEMENT G: a method of ours, at a pc, with locals, operand stack and a world, comes to an end with Post. It hides the machine's state, rooms, tables. Every rule below is one instruction. -/
-- X: the launch, the classes' numbers, the classes of int[], boolean[], long[], Shape[], the heap at the law's start, the two static tables' addresses, the script's address, length, ints
abbrev gX : Type := Launch × va_G × (ClassId × ClassId × ClassId × ClassId) × Heap × (Nat × Nat) × (Nat × Nat × (Nat → Int32))
-- an end: a value returned, or an exception of the kind k
abbrev gO : Type := Option Value ⊕ Nat
abbrev gX.l (X : gX) : Launch := X.1
abbrev gX.D (X : gX) : va_G := X.2.1
abbrev gX.cI (X : gX) : ClassId := X.2.2.1.1
abbrev gX.cZ (X : gX) : ClassId := X.2.2.1.2.1
abbrev gX.cJ (X : gX) : ClassId := X.2.2.1.2.2.1
abbrev gX.cQ (X : gX) : ClassId := X.2.2.1.2.2.2
abbrev gX.tys (X : gX) : List (ClassId × FieldType) := [(X.cI, .int), (X.cZ, .boolean), (X.cJ, .long), (X.cQ, .object gShape)]
abbrev gX.H0 (X : gX) : Heap := X.2.2.2.1
abbrev gX.t1 (X : gX) : Nat := X.2.2.2.2.1.1
abbrev gX.t2 (X : gX) : Nat := X.2.2.2.2.1.2
abbrev gX.sb (X : gX) : Nat := X.2.2.2.2.2.1
abbrev gX.sl (X : gX) : Nat := X.2.2.2.2.2.2.1
abbrev gX.sx (X : gX) : Nat → Int32 := X.2.2.2.2.2.2.2
-- the addresses that the run may write: those that are new since the law's start, and no class's statics
def gA (X : gX) (s : State) : Nat → Prop := fun q => X.H0.size ≤ q ∧ ∀ cell : Cell, s.heap[q]? = some cell → cell.vm.isStatics = false
-- what lay there at the law's start is unchanged
def gLow (X : gX) (H : Heap) : Prop := X.H0.size ≤ H.size ∧ ∀ q, q < X.H0.size → H[q]? = X.H0[q]?
-- a method's body, met at an invocation
def gB (M : gM) (p : Program) (s : State) (m : MethodId) (meth : Method) (c : Code) : Prop :=
  p.tables.exec = Jvm.exec ∧ c.code = M.code ∧ c.maxLocals = M.maxL ∧ meth.sig.returnType = M.ret ∧ meth.locks = false ∧ s.vm.findClass M.y.cls = some m.cls ∧
    (∀ hh, M.hh = some hh → c.exceptionTable.toList.map (fun h => (h.startPc, h.endPc, h.handlerPc, h.catchType)) = hh) ∧ (M.y.name = "<init>" → meth.name = "<init>")
def gHi (X : gX) : Nat → Prop := fun q => X.H0.size ≤ q
-- the static tables FIRST_COLUMN, SECOND_COLUMN
def gF1 : Nat → Value := fun j => .int (([0, 1, 2, 0, 0, 1, 1, 2, 2] : List Int32).getD j 0)
def gF2 : Nat → Value := fun j => .int (([-1, -1, -1, 1, 2, 0, 2, 0, 1] : List Int32).getD j 0)
-- a static field of references, laid at the law's start
def gLS (X : gX) (U : State) (owner name desc : String) : Prop := ∃ (c : ClassId) (k : Class) (i : Nat) (f : Field) (a : Nat) (cell : Cell) (v : Value), U.vm.findClass owner = some c ∧ U.fieldFound? owner name desc = some (c, k, i, f) ∧ f.isStatic = true ∧ k.statics = some a ∧ X.H0[a]? = some cell ∧ cell.vm.isStatics = true ∧ cell.cls = c ∧ f.slot < cell.slots.size ∧ k.staticTypes[f.slot]? = some f.type ∧ cell.slots[f.slot]? = some v ∧ v.isRef = true
theorem gLS.moved {X : gX} {u U : State} {owner name desc : String} (hvm : u.vm.Alike U.vm) (h : gLS X u owner name desc) : gLS X U owner name desc := by
  obtain ⟨c, k, i, f, a, cell, v, h1, h2, h3, h4, h5, h6, h7, h8, h9, h10⟩ := h
  obtain ⟨k', hi', he⟩ := State.fieldFound?_setVm hvm h2
  exact ⟨c, k', i, f, a, cell, v, by rw [hvm.findClass]; exact h1, hi', h3, by rw [he]; exact h4, h5, h6, h7, h8, by rw [he]; exact h9, h10⟩
def gSt (X : gX) (U : State) : Prop :=
  va_Z "SelfArranger" "FIRST_COLUMN" "[I" (.ref X.t1) (gHi X) U X.H0 ∧ va_Z "SelfArranger" "SECOND_COLUMN" "[I" (.ref X.t2) (gHi X) U X.H0 ∧ va_T .int X.t1 9 gF1 (gHi X) U X.H0 ∧ va_T .int X.t2 9 gF2 (gHi X) U X.H0 ∧
  va_X X.sb X.sl X.sx U X.H0 ∧ X.sb < X.H0.size ∧ (∀ ty ∈ ([.int, .boolean, .long] : List FieldType), (Cond.arrayClass ty).before #[] U = true) ∧ va_AO gShape U ∧ (∀ q ∈ gSTR, ∃ a, vk_R q.1 q.2.1 q.2.2 a U) ∧
  gLS X U "java/lang/Throwable" "UNASSIGNED_STACK" "[Ljava/lang/StackTraceElement;" ∧ gLS X U "java/lang/Throwable" "SUPPRESSED_SENTINEL" "Ljava/util/List;" ∧ ∀ i j, i < 4 → j < 4 → i ≠ j → va_Nc (gEx i) (gEx j) U
theorem gSt.moved {X : gX} {s U : State} (hW : s.WarmedH U.vm) (h : gSt X s) : gSt X U := by
  obtain ⟨h1, h2, h3, h4, h5, h6, h7, h8, h9, h10, h11, h12⟩ := h
  exact ⟨h1.moved hW.alike, h2.moved hW.alike, h3.moved hW.alike, h4.moved hW.alike, h5.moved hW.alike, h6, fun ty hty => word_at hW (Or.inr ⟨ty, rfl⟩) (h7 ty hty), h8.moved hW.alike,
    fun q hq => by obtain ⟨a, ha⟩ := h9 q hq; exact ⟨a, ha.warm hW⟩, h10.moved hW.alike, h11.moved hW.alike, fun i j hi hj hij => (h12 i j hi hj hij).moved hW.alike⟩
-- what the tables say
def gT (X : gX) (U : State) : Prop := (∀ w ∈ gTW, w.before #[] U = true) ∧ va_K X.D vwCl X.tys U ∧ gSt X U
theorem gT.moved {X : gX} {s U : State} (hW : s.WarmedH U.vm) (h : gT X s) : gT X U := ⟨fun w hw => gRd_ride (List.mem_filter.mp hw).2 hW (h.1 w hw), h.2.1.moved hW.alike, h.2.2.moved hW⟩
-- an end of the machine is an end of ours
def gOut (t : State) (r : gO) (o : Outcome) : Prop := match r with
  | .inl v => o = .returned v
  | .inr k => ∃ (a : Addr) (cell : Cell), o = .threw a ∧ t.heap[a]? = some cell ∧ cell.vm.isStatics = false ∧ t.vm.findClass (gEx k) = some cell.cls
def gE (X : gX) (below : List Frame) (s : State) (R : Room) (Post : gO → va_W → Prop) (t : State) : Prop :=
  ∃ (o : Outcome) (r : gO) (ws : va_W), t.status = .running ∧ Ended t below o ∧ gOut t r o ∧ Post r ws ∧ va_P X.D vwCl ws t.heap ∧ va_D (fun q => X.H0.size ≤ q) ws ∧
    ∃ Ls : List Loc, s.WarmedH t.vm ∧ s.sameButNew ({ t with vm := s.vm } : State) Ls R.cells R.slots ∧ va_S (gA X s) s.heap t.heap Ls
-- all that holds at a point
def gI (X : gX) (M : gM) (F L C S : Nat) (lv : List (Nat × Value)) (ws : va_W) (p : Program) (R : Room) (s : State) (m : MethodId) (meth : Method) (c : Code) (H : Heap) (locs : List Loc) (kc ks : Nat) (ls : Array Slot) : Prop :=
  gB M p s m meth c ∧ (F ≤ R.frames ∧ L ≤ R.locals ∧ kc + C ≤ R.cells ∧ ks + S ≤ R.slots) ∧ lv_has ls M.maxL lv ∧ gT X s ∧ gLow X s.heap ∧ va_P X.D vwCl ws H ∧ va_D (gA X s) ws ∧ va_S (gA X s) s.heap H locs
def G (X : gX) (M : gM) (F L C S : Nat) (pc : Nat) (lv : List (Nat × Value)) (st : List Value) (ws : va_W) (Post : gO → va_W → Prop) : Prop :=
  ∀ (p : Program) (e : Env) (R : Room) (s : State) (m : MethodId) (args : Array Value) (below : List Frame) (meth : Method) (c : Code) (H : Heap) (locs : List Loc) (kc ks : Nat) (ls : Array Slot),
    gI X M F L C S lv ws p R s m meth c H locs kc ks ls → W p X.l e R s m args below meth c H locs kc ks (gE X below s R Post) (F0 m pc ls st)
theorem W.mono {p : Program} {l : Launch} {e : Env} {R : Room} {s : State} {m : MethodId} {args : Array Value} {below : List Frame} {meth : Method} {c : Code} {H : Heap} {locs : List Loc} {cells slots : Nat} {Q Q' : State → Prop} {g : JFrame}
    (h : ∀ t, Q t → Q' t) (k : W p l e R s m args below meth c H locs cells slots Q g) : W p l e R s m args below meth c H locs cells slots Q' g := fun T hT X => by
  obtain ⟨t, a, b⟩ := k T hT X
  exact ⟨t, a, h t b⟩
section GI
variable {X : gX} {M : gM} {F L C S : Nat} {lv : List (Nat × Value)} {ws : va_W} {p : Program} {R : Room} {s : State} {m : MethodId} {meth : Method} {c : Code} {H : Heap} {locs : List Loc} {kc ks : Nat} {ls : Array Slot}
theorem gI.x (I : gI X M F L C S lv ws p R s m meth c H locs kc ks ls) : p.tables.exec = Jvm.exec := I.1.1
theorem gI.b (I : gI X M F L C S lv ws p R s m meth c H locs kc ks ls) : c.code = M.code := I.1.2.1
theorem gI.ml (I : gI X M F L C S lv ws p R s m meth c H locs kc ks ls) : c.maxLocals = M.maxL := I.1.2.2.1
theorem gI.r (I : gI X M F L C S lv ws p R s m meth c H locs kc ks ls) : meth.sig.returnType = M.ret := I.1.2.2.2.1
theorem gI.lk (I : gI X M F L C S lv ws p R s m meth c H locs kc ks ls) : meth.locks = false := I.1.2.2.2.2.1
theorem gI.own (I : gI X M F L C S lv ws p R s m meth c H locs kc ks ls) : s.vm.findClass M.y.cls = some m.cls := I.1.2.2.2.2.2.1
theorem gI.tab (I : gI X M F L C S lv ws p R s m meth c H locs kc ks ls) {hh : List (Nat × Nat × Nat × Nat)} (h : M.hh = some hh) : c.exceptionTable.toList.map (fun h => (h.startPc, h.endPc, h.handlerPc, h.catchType)) = hh := I.1.2.2.2.2.2.2.1 hh h
theorem gI.nm (I : gI X M F L C S lv ws p R s m meth c H locs kc ks ls) : M.y.name = "<init>" → meth.name = "<init>" := I.1.2.2.2.2.2.2.2
theorem gI.hl (I : gI X M F L C S lv ws p R s m meth c H locs kc ks ls) : lv_has ls M.maxL lv := I.2.2.1
theorem gI.T (I : gI X M F L C S lv ws p R s m meth c H locs kc ks ls) : gT X s := I.2.2.2.1
theorem gI.low (I : gI X M F L C S lv ws p R s m meth c H locs kc ks ls) : gLow X s.heap := I.2.2.2.2.1
theorem gI.P (I : gI X M F L C S lv ws p R s m meth c H locs kc ks ls) : va_P X.D vwCl ws H := I.2.2.2.2.2.1
theorem gI.dd (I : gI X M F L C S lv ws p R s m meth c H locs kc ks ls) : va_D (gA X s) ws := I.2.2.2.2.2.2.1
theorem gI.sS (I : gI X M F L C S lv ws p R s m meth c H locs kc ks ls) : va_S (gA X s) s.heap H locs := I.2.2.2.2.2.2.2
theorem gI.K (I : gI X M F L C S lv ws p R s m meth c H locs kc ks ls) : va_K X.D vwCl X.tys s := I.T.2.1
theorem gI.w (I : gI X M F L C S lv ws p R s m meth c H locs kc ks ls) (args : Array Value) {w : Cond} (h : w ∈ gTW) : w.before args s = true := va_tabs (gTW_on w h) rfl (I.T.1 w h)
theorem gI.ts (I : gI X M F L C S lv ws p R s m meth c H locs kc ks ls) (args : Array Value) : ∀ w ∈ gTW, w.before args s = true := fun _ h => I.w args h
theorem gI.hA (I : gI X M F L C S lv ws p R s m meth c H locs kc ks ls) : ∀ q, s.heap.size ≤ q → gA X s q := fun q h => ⟨Nat.le_trans I.low.1 h, fun cell hc => absurd (Array.getElem?_eq_some_iff.mp hc).1 (Nat.not_lt.mpr h)⟩
theorem gI.wl (I : gI X M F L C S lv ws p R s m meth c H locs kc ks ls) {lv' : List (Nat × Value)} {ls' : Array Slot} (h : lv_has ls' M.maxL lv') : gI X M F L C S lv' ws p R s m meth c H locs kc ks ls' := ⟨I.1, I.2.1, h, I.2.2.2⟩
theorem gI.to (I : gI X M F L C S lv ws p R s m meth c H locs kc ks ls) {ws' : va_W} {H' : Heap} {locs' : List Loc} (hP : va_P X.D vwCl ws' H') (hD : va_D (gA X s) ws') (hS : va_S (gA X s) s.heap H' locs') : gI X M F L C S lv ws' p R s m meth c H' locs' kc ks ls := ⟨I.1, I.2.1, I.2.2.1, I.2.2.2.1, I.2.2.2.2.1, hP, hD, hS⟩
theorem gI.room (I : gI X M F L C S lv ws p R s m meth c H locs kc ks ls) {C' S' kc' ks' : Nat} (h1 : kc' + C' ≤ R.cells) (h2 : ks' + S' ≤ R.slots) : gI X M F L C' S' lv ws p R s m meth c H locs kc' ks' ls := ⟨I.1, ⟨I.2.1.1, I.2.1.2.1, h1, h2⟩, I.2.2⟩
theorem gLow.of {s : State} (h : gLow X s.heap) (hS : va_S (gA X s) s.heap H locs) : gLow X H :=
  ⟨Nat.le_trans h.1 hS.1, fun q hq => (hS.2.1 q (Nat.lt_of_lt_of_le hq h.1) (fun z => Nat.not_le.mpr hq z.1)).trans (h.2 q hq)⟩
-- the world's cells are no class's statics
theorem gNS {D : va_G} {cl : List vw_C} {k q : Nat} {x : va_E} (h : va_P D cl ws H) (hk : ws[k]? = some (q, x)) : ∃ cell : Cell, H[q]? = some cell ∧ cell.vm.isStatics = false := by
  have h1 := h k _ hk
  cases x with
  | inl a =>
    obtain ⟨cA, n, f | f | f | f | f⟩ := a <;> exact ⟨_, h1, rfl⟩
  | inr o =>
    obtain ⟨r, -, cell, q1, q2, q3, -⟩ := h1
    exact ⟨cell, q1, by rw [q3]; rfl⟩
-- a cell that lay at a method's start has kept its kind
theorem gKind {s T : State} {L : List Loc} {k n : Nat} (h : s.sameButNew (T.setVm s.vm) L k n) {q : Nat} {c0 c1 : Cell} (h0 : s.heap[q]? = some c0) (h1 : T.heap[q]? = some c1) : c1.vm.isStatics = c0.vm.isStatics := by
  obtain ⟨c2, e1, e2, -⟩ := h.2.2.2.2.2 q c0 h0
  cases (show T.heap[q]? = some c2 from e1).symm.trans h1
  rw [e2]
end GI
/-! locals: a list by rising numbers -/
def lset (i : Nat) (v : Value) : List (Nat × Value) → List (Nat × Value)
  | [] => [(i, v)]
  | q :: r => match Nat.blt q.1 i with
    | true => match (q.1 + 1 == i) && (q.2.category == 2) with
      | true => lset i v r
      | false => q :: lset i v r
    | false => match q.1 == i || (q.1 == i + 1 && v.category == 2) with
      | true => lset i v r
      | false => (i, v) :: q :: r.filter (fun z => !(z.1 == i) && (!(z.1 == i + 1 && v.category == 2) && !(z.1 + 1 == i && z.2.category == 2)))
theorem lset_in {i : Nat} {v : Value} {q : Nat × Value} : ∀ {lv : List (Nat × Value)}, q ∈ lset i v lv → q = (i, v) ∨ (q ∈ lv ∧ q.1 ≠ i ∧ ¬ (q.1 = i + 1 ∧ v.category = 2) ∧ ¬ (q.1 + 1 = i ∧ q.2.category = 2))
  | [], h => by
    simp [lset] at h
    exact Or.inl h
  | z :: r, h => by
    unfold lset at h
    split at h
    · rename_i hb
      have hb' : z.1 < i := by simpa [Nat.blt_eq] using hb
      split at h
      · rcases lset_in h with h | ⟨h1, h2⟩
        · exact Or.inl h
        · exact Or.inr ⟨List.mem_cons_of_mem _ h1, h2⟩
      · rename_i hc
        rcases List.mem_cons.mp h with h | h
        · subst h
          refine Or.inr ⟨List.mem_cons_self, by omega, by omega, fun q => ?_⟩
          simp [q.1, q.2] at hc
        · rcases lset_in h with h | ⟨h1, h2⟩
          · exact Or.inl h
          · exact Or.inr ⟨List.mem_cons_of_mem _ h1, h2⟩
    · rename_i hb
      have hb' : ¬ z.1 < i := fun hz => by rw [(Nat.blt_eq).mpr hz] at hb; cases hb
      split at h
      · rcases lset_in h with h | ⟨h1, h2⟩
        · exact Or.inl h
        · exact Or.inr ⟨List.mem_cons_of_mem _ h1, h2⟩
      · rename_i hc
        rcases List.mem_cons.mp h with h | h
        · exact Or.inl h
        · rcases List.mem_cons.mp h with h | h
          · subst h
            refine Or.inr ⟨List.mem_cons_self, fun q => ?_, fun q => ?_, by omega⟩
            · simp [q] at hc
            · simp [q.1, q.2] at hc
          · obtain ⟨h1, h2⟩ := List.mem_filter.mp h
            refine Or.inr ⟨List.mem_cons_of_mem _ h1, fun q => ?_, fun q => ?_, fun q => ?_⟩
            · simp [q] at h2
            · simp [q.1, q.2] at h2
            · have := q.1
              simp [q.2] at h2
              omega
theorem lget_in {i : Nat} {v : Value} : ∀ {lv : List (Nat × Value)}, lv.lookup i = some v → (i, v) ∈ lv
  | [], h => by simp at h
  | (j, w) :: r, h => by
    rw [List.lookup_cons] at h
    split at h
    · rename_i hb
      have : i = j := by simpa using hb
      cases h
      subst this
      exact List.mem_cons_self
    · exact List.mem_cons_of_mem _ (lget_in h)
theorem lget {ls : Array Slot} {n : Nat} {lv : List (Nat × Value)} {i : Nat} {v : Value} (h : lv_has ls n lv) (hv : lv.lookup i = some v) : ls[i]? = some (.val v) := h.2.2 (i, v) (lget_in hv)
theorem lput1 {ls : Array Slot} {n : Nat} {lv : List (Nat × Value)} {i : Nat} {v : Value} (hc : v.category = 1) (h : lv_has ls n ((i, v) :: lv.filter (fun q => !(q.1 == i) && !(q.1 + 1 == i && q.2.category == 2)))) : lv_has ls n (lset i v lv) := by
  refine ⟨h.1, h.2.1, fun q hq => h.2.2 q ?_⟩
  rcases lset_in hq with h | ⟨h1, h2, -, h3⟩
  · exact h ▸ List.mem_cons_self
  · refine List.mem_cons_of_mem _ (List.mem_filter.mpr ⟨h1, ?_⟩)
    simp only [Bool.and_eq_true, Bool.not_eq_true', beq_eq_false_iff_ne, ne_eq, Bool.and_eq_false_iff]
    refine ⟨h2, ?_⟩
    by_cases hz : q.1 + 1 = i
    · exact Or.inr fun z => h3 ⟨hz, z⟩
    · exact Or.inl hz
theorem lput2 {ls : Array Slot} {n : Nat} {lv : List (Nat × Value)} {i : Nat} {v : Value} (hc : v.category = 2) (h : lv_has ls n ((i, v) :: lv.filter (fun q => !(q.1 == i) && (!(q.1 == i + 1) && !(q.1 + 1 == i && q.2.category == 2))))) : lv_has ls n (lset i v lv) := by
  refine ⟨h.1, h.2.1, fun q hq => h.2.2 q ?_⟩
  rcases lset_in hq with h | ⟨h1, h2, h4, h3⟩
  · exact h ▸ List.mem_cons_self
  · refine List.mem_cons_of_mem _ (List.mem_filter.mpr ⟨h1, ?_⟩)
    simp only [Bool.and_eq_true, Bool.not_eq_true', beq_eq_false_iff_ne, ne_eq, Bool.and_eq_false_iff]
    refine ⟨h2, fun z => h4 ⟨z, hc⟩, ?_⟩
    by_cases hz : q.1 + 1 = i
    · exact Or.inr fun z => h3 ⟨hz, z⟩
    · exact Or.inl hz
def lsel (lv : List (Nat × Value)) (is : List Nat) : List (Nat × Value) := is.filterMap (fun i => (lv.lookup i).map (fun v => (i, v)))
theorem lsel_has {ls : Array Slot} {n : Nat} {lv lv' : List (Nat × Value)} (h : lv_has ls n lv) (is : List Nat) (hs : lsel lv is = lv') : lv_has ls n lv' := by
  refine ⟨h.1, h.2.1, fun q hq => ?_⟩
  subst hs
  obtain ⟨i, -, hi⟩ := List.mem_filterMap.mp hq
  cases hv : lv.lookup i with
  | none => rw [hv] at hi; cases hi
  | some v =>
    rw [hv] at hi
    cases hi
    exact lget h hv
end
section
/-! The rules of G: one an instruction (written by wip/mkrules.py) -/
section GR
variable {X : gX} {M : gM} {F L C S : Nat} {pc pc' tgt : Nat} {lv : List (Nat × Value)} {st : List Value} {ws : va_W} {Post : gO → va_W → Prop}
theorem g_iconst {n : Int} (v : Int32) (hd : gD M pc (.iconst n) 1 pc') (hv : Int32.ofInt n = v) (k : G X M F L C S pc' lv (.int v :: st) ws Post) : G X M F L C S pc lv st ws Post := by
  obtain ⟨hd, rfl⟩ := hd
  exact fun p e R s m args below meth c H locs kc ks ls I => lv_iconst I.x I.b hd hv (k p e R s m args below meth c H locs kc ks ls I)
theorem g_bipush {n : Int} (v : Int32) (hd : gD M pc (.bipush n) 2 pc') (hv : (Int8.ofInt n).toInt32 = v) (k : G X M F L C S pc' lv (.int v :: st) ws Post) : G X M F L C S pc lv st ws Post := by
  obtain ⟨hd, rfl⟩ := hd
  exact fun p e R s m args below meth c H locs kc ks ls I => lv_bipush I.x I.b hd hv (k p e R s m args below meth c H locs kc ks ls I)
theorem g_sipush {n : Int} (v : Int32) (hd : gD M pc (.sipush n) 3 pc') (hv : (Int16.ofInt n).toInt32 = v) (k : G X M F L C S pc' lv (.int v :: st) ws Post) : G X M F L C S pc lv st ws Post := by
  obtain ⟨hd, rfl⟩ := hd
  exact fun p e R s m args below meth c H locs kc ks ls I => lv_sipush I.x I.b hd hv (k p e R s m args below meth c H locs kc ks ls I)
theorem g_lconst {n : Fin 2} (v : Int64) (hd : gD M pc (.lconst n) 1 pc') (hv : Int64.ofNat (n : Nat) = v) (k : G X M F L C S pc' lv (.long v :: st) ws Post) : G X M F L C S pc lv st ws Post := by
  obtain ⟨hd, rfl⟩ := hd
  exact fun p e R s m args below meth c H locs kc ks ls I => lv_lconst I.x I.b hd hv (k p e R s m args below meth c H locs kc ks ls I)
theorem g_ldc_w {i : Nat} (v : Int32) (hd : gD M pc (.ldc_w i) 3 pc') (hw : Cond.constant M.y.cls i v ∈ gTW) (k : G X M F L C S pc' lv (.int v :: st) ws Post) : G X M F L C S pc lv st ws Post := by
  obtain ⟨hd, rfl⟩ := hd
  exact fun p e R s m args below meth c H locs kc ks ls I => lv_ldcw I.x I.b I.own (I.w args hw) hd (k p e R s m args below meth c H locs kc ks ls I)
theorem g_ldc {i : Nat} (v : Int32) (hd : gD M pc (.ldc i) 2 pc') (hw : Cond.constant M.y.cls i v ∈ gTW) (k : G X M F L C S pc' lv (.int v :: st) ws Post) : G X M F L C S pc lv st ws Post := by
  obtain ⟨hd, rfl⟩ := hd
  exact fun p e R s m args below meth c H locs kc ks ls I => lv_ldc I.x I.b I.own (I.w args hw) hd (k p e R s m args below meth c H locs kc ks ls I)
theorem g_iload_n {j : Fin 4} {x : Int32} (hd : gD M pc (.iload_n j) 1 pc') (hl : lv.lookup j.val = some (.int x)) (k : G X M F L C S pc' lv (.int x :: st) ws Post) : G X M F L C S pc lv st ws Post := by
  obtain ⟨hd, rfl⟩ := hd
  exact fun p e R s m args below meth c H locs kc ks ls I => lv_iload_n I.x I.b hd rfl (lget I.hl hl) (k p e R s m args below meth c H locs kc ks ls I)
theorem g_iload {i : Nat} {x : Int32} (hd : gD M pc (.iload i) 2 pc') (hl : lv.lookup i = some (.int x)) (k : G X M F L C S pc' lv (.int x :: st) ws Post) : G X M F L C S pc lv st ws Post := by
  obtain ⟨hd, rfl⟩ := hd
  exact fun p e R s m args below meth c H locs kc ks ls I => lv_iload I.x I.b hd (lget I.hl hl) (k p e R s m args below meth c H locs kc ks ls I)
theorem g_lload_n {j : Fin 4} {x : Int64} (hd : gD M pc (.lload_n j) 1 pc') (hl : lv.lookup j.val = some (.long x)) (k : G X M F L C S pc' lv (.long x :: st) ws Post) : G X M F L C S pc lv st ws Post := by
  obtain ⟨hd, rfl⟩ := hd
  exact fun p e R s m args below meth c H locs kc ks ls I => lv_lload_n I.x I.b hd rfl (lget I.hl hl) (k p e R s m args below meth c H locs kc ks ls I)
theorem g_lload {i : Nat} {x : Int64} (hd : gD M pc (.lload i) 2 pc') (hl : lv.lookup i = some (.long x)) (k : G X M F L C S pc' lv (.long x :: st) ws Post) : G X M F L C S pc lv st ws Post := by
  obtain ⟨hd, rfl⟩ := hd
  exact fun p e R s m args below meth c H locs kc ks ls I => lv_lload I.x I.b hd (lget I.hl hl) (k p e R s m args below meth c H locs kc ks ls I)
theorem g_aload_n {j : Fin 4} {x : Nat} (hd : gD M pc (.aload_n j) 1 pc') (hl : lv.lookup j.val = some (.ref x)) (k : G X M F L C S pc' lv (.ref x :: st) ws Post) : G X M F L C S pc lv st ws Post := by
  obtain ⟨hd, rfl⟩ := hd
  exact fun p e R s m args below meth c H locs kc ks ls I => lv_aload_n I.x I.b hd rfl (lget I.hl hl) (k p e R s m args below meth c H locs kc ks ls I)
theorem g_aload {i : Nat} {x : Nat} (hd : gD M pc (.aload i) 2 pc') (hl : lv.lookup i = some (.ref x)) (k : G X M F L C S pc' lv (.ref x :: st) ws Post) : G X M F L C S pc lv st ws Post := by
  obtain ⟨hd, rfl⟩ := hd
  exact fun p e R s m args below meth c H locs kc ks ls I => lv_aload I.x I.b hd (lget I.hl hl) (k p e R s m args below meth c H locs kc ks ls I)
theorem g_istore_n {j : Fin 4} {x : Int32} (hd : gD M pc (.istore_n j) 1 pc') (hn : j.val < M.maxL) (k : G X M F L C S pc' (lset j.val (.int x) lv) st ws Post) : G X M F L C S pc lv (.int x :: st) ws Post := by
  obtain ⟨hd, rfl⟩ := hd
  exact fun p e R s m args below meth c H locs kc ks ls I => lv_istore_n I.x I.b hd rfl I.hl hn rfl (fun ls' h => k p e R s m args below meth c H locs kc ks ls' (I.wl (lput1 rfl h)))
theorem g_istore {i : Nat} {x : Int32} (hd : gD M pc (.istore i) 2 pc') (hn : i < M.maxL) (k : G X M F L C S pc' (lset i (.int x) lv) st ws Post) : G X M F L C S pc lv (.int x :: st) ws Post := by
  obtain ⟨hd, rfl⟩ := hd
  exact fun p e R s m args below meth c H locs kc ks ls I => lv_istore I.x I.b hd I.hl hn rfl (fun ls' h => k p e R s m args below meth c H locs kc ks ls' (I.wl (lput1 rfl h)))
theorem g_lstore_n {j : Fin 4} {x : Int64} (hd : gD M pc (.lstore_n j) 1 pc') (hn : j.val + 1 < M.maxL) (k : G X M F L C S pc' (lset j.val (.long x) lv) st ws Post) : G X M F L C S pc lv (.long x :: st) ws Post := by
  obtain ⟨hd, rfl⟩ := hd
  exact fun p e R s m args below meth c H locs kc ks ls I => lv_lstore_n I.x I.b hd rfl I.hl hn rfl (fun ls' h => k p e R s m args below meth c H locs kc ks ls' (I.wl (lput2 rfl h)))
theorem g_lstore {i : Nat} {x : Int64} (hd : gD M pc (.lstore i) 2 pc') (hn : i + 1 < M.maxL) (k : G X M F L C S pc' (lset i (.long x) lv) st ws Post) : G X M F L C S pc lv (.long x :: st) ws Post := by
  obtain ⟨hd, rfl⟩ := hd
  exact fun p e R s m args below meth c H locs kc ks ls I => lv_lstore I.x I.b hd I.hl hn rfl (fun ls' h => k p e R s m args below meth c H locs kc ks ls' (I.wl (lput2 rfl h)))
theorem g_astore_n {j : Fin 4} {x : Nat} (hd : gD M pc (.astore_n j) 1 pc') (hn : j.val < M.maxL) (k : G X M F L C S pc' (lset j.val (.ref x) lv) st ws Post) : G X M F L C S pc lv (.ref x :: st) ws Post := by
  obtain ⟨hd, rfl⟩ := hd
  exact fun p e R s m args below meth c H locs kc ks ls I => lv_astore_n I.x I.b hd rfl I.hl hn rfl (fun ls' h => k p e R s m args below meth c H locs kc ks ls' (I.wl (lput1 rfl h)))
theorem g_astore {i : Nat} {x : Nat} (hd : gD M pc (.astore i) 2 pc') (hn : i < M.maxL) (k : G X M F L C S pc' (lset i (.ref x) lv) st ws Post) : G X M F L C S pc lv (.ref x :: st) ws Post := by
  obtain ⟨hd, rfl⟩ := hd
  exact fun p e R s m args below meth c H locs kc ks ls I => lv_astore I.x I.b hd I.hl hn rfl (fun ls' h => k p e R s m args below meth c H locs kc ks ls' (I.wl (lput1 rfl h)))
theorem g_iinc {i : Nat} {n : Int} {x : Int32} (v : Int32) (hd : gD M pc (.iinc i n) 3 pc') (hl : lv.lookup i = some (.int x)) (hv : x + Int32.ofInt n = v) (hn : i < M.maxL) (k : G X M F L C S pc' (lset i (.int v) lv) st ws Post) : G X M F L C S pc lv st ws Post := by
  obtain ⟨hd, rfl⟩ := hd
  obtain ⟨j, hj⟩ := List.getElem?_of_mem (lget_in hl)
  exact fun p e R s m args below meth c H locs kc ks ls I => lv_iinc (k := j) I.x I.b hd I.hl hj hv hn rfl (fun ls' h => k p e R s m args below meth c H locs kc ks ls' (I.wl (lput1 rfl h)))
theorem g_iadd {x y : Int32} (hd : gD M pc .iadd 1 pc') (k : G X M F L C S pc' lv (.int (x + y) :: st) ws Post) : G X M F L C S pc lv (.int y :: .int x :: st) ws Post := by
  obtain ⟨hd, rfl⟩ := hd
  exact fun p e R s m args below meth c H locs kc ks ls I => lv_iadd I.x I.b hd (k p e R s m args below meth c H locs kc ks ls I)
theorem g_isub {x y : Int32} (hd : gD M pc .isub 1 pc') (k : G X M F L C S pc' lv (.int (x - y) :: st) ws Post) : G X M F L C S pc lv (.int y :: .int x :: st) ws Post := by
  obtain ⟨hd, rfl⟩ := hd
  exact fun p e R s m args below meth c H locs kc ks ls I => lv_isub I.x I.b hd (k p e R s m args below meth c H locs kc ks ls I)
theorem g_imul {x y : Int32} (hd : gD M pc .imul 1 pc') (k : G X M F L C S pc' lv (.int (x * y) :: st) ws Post) : G X M F L C S pc lv (.int y :: .int x :: st) ws Post := by
  obtain ⟨hd, rfl⟩ := hd
  exact fun p e R s m args below meth c H locs kc ks ls I => lv_imul I.x I.b hd (k p e R s m args below meth c H locs kc ks ls I)
theorem g_iand {x y : Int32} (hd : gD M pc .iand 1 pc') (k : G X M F L C S pc' lv (.int (x &&& y) :: st) ws Post) : G X M F L C S pc lv (.int y :: .int x :: st) ws Post := by
  obtain ⟨hd, rfl⟩ := hd
  exact fun p e R s m args below meth c H locs kc ks ls I => lv_iand I.x I.b hd (k p e R s m args below meth c H locs kc ks ls I)
theorem g_ior {x y : Int32} (hd : gD M pc .ior 1 pc') (k : G X M F L C S pc' lv (.int (x ||| y) :: st) ws Post) : G X M F L C S pc lv (.int y :: .int x :: st) ws Post := by
  obtain ⟨hd, rfl⟩ := hd
  exact fun p e R s m args below meth c H locs kc ks ls I => lv_ior I.x I.b hd (k p e R s m args below meth c H locs kc ks ls I)
theorem g_ixor {x y : Int32} (hd : gD M pc .ixor 1 pc') (k : G X M F L C S pc' lv (.int (x ^^^ y) :: st) ws Post) : G X M F L C S pc lv (.int y :: .int x :: st) ws Post := by
  obtain ⟨hd, rfl⟩ := hd
  exact fun p e R s m args below meth c H locs kc ks ls I => lv_ixor I.x I.b hd (k p e R s m args below meth c H locs kc ks ls I)
theorem g_idiv {x y : Int32} (hd : gD M pc .idiv 1 pc') (hne : ¬ y = 0) (k : G X M F L C S pc' lv (.int (x / y) :: st) ws Post) : G X M F L C S pc lv (.int y :: .int x :: st) ws Post := by
  obtain ⟨hd, rfl⟩ := hd
  exact fun p e R s m args below meth c H locs kc ks ls I => lv_idiv I.x I.b hd hne (k p e R s m args below meth c H locs kc ks ls I)
theorem g_irem {x y : Int32} (hd : gD M pc .irem 1 pc') (hne : ¬ y = 0) (k : G X M F L C S pc' lv (.int (x - x / y * y) :: st) ws Post) : G X M F L C S pc lv (.int y :: .int x :: st) ws Post := by
  obtain ⟨hd, rfl⟩ := hd
  exact fun p e R s m args below meth c H locs kc ks ls I => lv_irem I.x I.b hd hne (k p e R s m args below meth c H locs kc ks ls I)
theorem g_ishl {x y : Int32} (hd : gD M pc .ishl 1 pc') (k : G X M F L C S pc' lv (.int (x <<< (y &&& 31)) :: st) ws Post) : G X M F L C S pc lv (.int y :: .int x :: st) ws Post := by
  obtain ⟨hd, rfl⟩ := hd
  exact fun p e R s m args below meth c H locs kc ks ls I => lv_ishl I.x I.b hd (k p e R s m args below meth c H locs kc ks ls I)
theorem g_ishr {x y : Int32} (hd : gD M pc .ishr 1 pc') (k : G X M F L C S pc' lv (.int (x >>> (y &&& 31)) :: st) ws Post) : G X M F L C S pc lv (.int y :: .int x :: st) ws Post := by
  obtain ⟨hd, rfl⟩ := hd
  exact fun p e R s m args below meth c H locs kc ks ls I => lv_ishr I.x I.b hd (k p e R s m args below meth c H locs kc ks ls I)
theorem g_ladd {x y : Int64} (hd : gD M pc .ladd 1 pc') (k : G X M F L C S pc' lv (.long (x + y) :: st) ws Post) : G X M F L C S pc lv (.long y :: .long x :: st) ws Post := by
  obtain ⟨hd, rfl⟩ := hd
  exact fun p e R s m args below meth c H locs kc ks ls I => lv_ladd I.x I.b hd (k p e R s m args below meth c H locs kc ks ls I)
theorem g_lsub {x y : Int64} (hd : gD M pc .lsub 1 pc') (k : G X M F L C S pc' lv (.long (x - y) :: st) ws Post) : G X M F L C S pc lv (.long y :: .long x :: st) ws Post := by
  obtain ⟨hd, rfl⟩ := hd
  exact fun p e R s m args below meth c H locs kc ks ls I => lv_lsub I.x I.b hd (k p e R s m args below meth c H locs kc ks ls I)
theorem g_lmul {x y : Int64} (hd : gD M pc .lmul 1 pc') (k : G X M F L C S pc' lv (.long (x * y) :: st) ws Post) : G X M F L C S pc lv (.long y :: .long x :: st) ws Post := by
  obtain ⟨hd, rfl⟩ := hd
  exact fun p e R s m args below meth c H locs kc ks ls I => lv_lmul I.x I.b hd (k p e R s m args below meth c H locs kc ks ls I)
theorem g_lcmp {x y : Int64} (hd : gD M pc .lcmp 1 pc') (k : G X M F L C S pc' lv (.int (lg_cmp x y) :: st) ws Post) : G X M F L C S pc lv (.long y :: .long x :: st) ws Post := by
  obtain ⟨hd, rfl⟩ := hd
  exact fun p e R s m args below meth c H locs kc ks ls I => W.lcmp I.x I.b hd (k p e R s m args below meth c H locs kc ks ls I)
theorem g_iushr {x y : Int32} (hd : gD M pc .iushr 1 pc') (k : G X M F L C S pc' lv (.int (x.toUInt32 >>> (y.toUInt32 &&& Int32.toUInt32 31)).toInt32 :: st) ws Post) : G X M F L C S pc lv (.int y :: .int x :: st) ws Post := by
  obtain ⟨hd, rfl⟩ := hd
  exact fun p e R s m args below meth c H locs kc ks ls I => lv_iushr I.x I.b hd rfl (k p e R s m args below meth c H locs kc ks ls I)
theorem g_i2l {x : Int32} (hd : gD M pc .i2l 1 pc') (k : G X M F L C S pc' lv (.long x.toInt64 :: st) ws Post) : G X M F L C S pc lv (.int x :: st) ws Post := by
  obtain ⟨hd, rfl⟩ := hd
  exact fun p e R s m args below meth c H locs kc ks ls I => lv_i2l I.x I.b hd rfl (k p e R s m args below meth c H locs kc ks ls I)
theorem g_ineg {x : Int32} (hd : gD M pc .ineg 1 pc') (k : G X M F L C S pc' lv (.int (-x) :: st) ws Post) : G X M F L C S pc lv (.int x :: st) ws Post := by
  obtain ⟨hd, rfl⟩ := hd
  exact fun p e R s m args below meth c H locs kc ks ls I => lv_ineg I.x I.b hd (k p e R s m args below meth c H locs kc ks ls I)
theorem g_dup {a : Value} (hd : gD M pc .dup 1 pc') (ha : a.category = 1) (k : G X M F L C S pc' lv (a :: a :: st) ws Post) : G X M F L C S pc lv (a :: st) ws Post := by
  obtain ⟨hd, rfl⟩ := hd
  exact fun p e R s m args below meth c H locs kc ks ls I => lv_dup I.x I.b hd ha (k p e R s m args below meth c H locs kc ks ls I)
theorem g_pop {a : Value} (hd : gD M pc .pop 1 pc') (ha : a.category = 1) (k : G X M F L C S pc' lv (st) ws Post) : G X M F L C S pc lv (a :: st) ws Post := by
  obtain ⟨hd, rfl⟩ := hd
  exact fun p e R s m args below meth c H locs kc ks ls I => lv_pop I.x I.b hd ha (k p e R s m args below meth c H locs kc ks ls I)
theorem g_dup_x1 {a b : Value} (hd : gD M pc .dup_x1 1 pc') (ha : a.category = 1) (hb : b.category = 1) (k : G X M F L C S pc' lv (a :: b :: a :: st) ws Post) : G X M F L C S pc lv (a :: b :: st) ws Post := by
  obtain ⟨hd, rfl⟩ := hd
  exact fun p e R s m args below meth c H locs kc ks ls I => lv_dup_x1 I.x I.b hd ha hb (k p e R s m args below meth c H locs kc ks ls I)
theorem g_dup_x2 {a b z : Value} (hd : gD M pc .dup_x2 1 pc') (ha : a.category = 1) (hb : b.category = 1) (hz : z.category = 1) (k : G X M F L C S pc' lv (a :: b :: z :: a :: st) ws Post) : G X M F L C S pc lv (a :: b :: z :: st) ws Post := by
  obtain ⟨hd, rfl⟩ := hd
  exact fun p e R s m args below meth c H locs kc ks ls I => lv_dup_x2 I.x I.b hd ha hb hz (k p e R s m args below meth c H locs kc ks ls I)
theorem g_dup2 {a b : Value} (hd : gD M pc .dup2 1 pc') (ha : a.category = 1) (hb : b.category = 1) (k : G X M F L C S pc' lv (a :: b :: a :: b :: st) ws Post) : G X M F L C S pc lv (a :: b :: st) ws Post := by
  obtain ⟨hd, rfl⟩ := hd
  exact fun p e R s m args below meth c H locs kc ks ls I => lv_dup2_11 I.x I.b hd ha hb (k p e R s m args below meth c H locs kc ks ls I)
theorem g_dup2L {a : Value} (hd : gD M pc .dup2 1 pc') (ha : a.category = 2) (k : G X M F L C S pc' lv (a :: a :: st) ws Post) : G X M F L C S pc lv (a :: st) ws Post := by
  obtain ⟨hd, rfl⟩ := hd
  exact fun p e R s m args below meth c H locs kc ks ls I => lv_dup2_2 I.x I.b hd ha (k p e R s m args below meth c H locs kc ks ls I)
theorem g_if_eq {x : Int32} {off : Int} (tgt : Nat) (hd : gD M pc (.ifCond .eq off) 3 pc') (ht : (pc : Int) + off = (tgt : Int)) (kt : x = 0 → G X M F L C S tgt lv st ws Post) (kf : ¬ x = 0 → G X M F L C S pc' lv st ws Post) : G X M F L C S pc lv (.int x :: st) ws Post := by
  obtain ⟨hd, rfl⟩ := hd
  exact fun p e R s m args below meth c H locs kc ks ls I => lv_if_eq I.x I.b hd ht (fun h => kt h p e R s m args below meth c H locs kc ks ls I) (fun h => kf h p e R s m args below meth c H locs kc ks ls I)
theorem g_icmp_eq {x y : Int32} {off : Int} (tgt : Nat) (hd : gD M pc (.if_icmp .eq off) 3 pc') (ht : (pc : Int) + off = (tgt : Int)) (kt : x = y → G X M F L C S tgt lv st ws Post) (kf : ¬ x = y → G X M F L C S pc' lv st ws Post) : G X M F L C S pc lv (.int y :: .int x :: st) ws Post := by
  obtain ⟨hd, rfl⟩ := hd
  exact fun p e R s m args below meth c H locs kc ks ls I => lv_icmp_eq I.x I.b hd ht (fun h => kt h p e R s m args below meth c H locs kc ks ls I) (fun h => kf h p e R s m args below meth c H locs kc ks ls I)
theorem g_if_ne {x : Int32} {off : Int} (tgt : Nat) (hd : gD M pc (.ifCond .ne off) 3 pc') (ht : (pc : Int) + off = (tgt : Int)) (kt : ¬ x = 0 → G X M F L C S tgt lv st ws Post) (kf : x = 0 → G X M F L C S pc' lv st ws Post) : G X M F L C S pc lv (.int x :: st) ws Post := by
  obtain ⟨hd, rfl⟩ := hd
  exact fun p e R s m args below meth c H locs kc ks ls I => lv_if_ne I.x I.b hd ht (fun h => kt h p e R s m args below meth c H locs kc ks ls I) (fun h => kf h p e R s m args below meth c H locs kc ks ls I)
theorem g_icmp_ne {x y : Int32} {off : Int} (tgt : Nat) (hd : gD M pc (.if_icmp .ne off) 3 pc') (ht : (pc : Int) + off = (tgt : Int)) (kt : ¬ x = y → G X M F L C S tgt lv st ws Post) (kf : x = y → G X M F L C S pc' lv st ws Post) : G X M F L C S pc lv (.int y :: .int x :: st) ws Post := by
  obtain ⟨hd, rfl⟩ := hd
  exact fun p e R s m args below meth c H locs kc ks ls I => lv_icmp_ne I.x I.b hd ht (fun h => kt h p e R s m args below meth c H locs kc ks ls I) (fun h => kf h p e R s m args below meth c H locs kc ks ls I)
theorem g_if_lt {x : Int32} {off : Int} (tgt : Nat) (hd : gD M pc (.ifCond .lt off) 3 pc') (ht : (pc : Int) + off = (tgt : Int)) (kt : x < 0 → G X M F L C S tgt lv st ws Post) (kf : ¬ x < 0 → G X M F L C S pc' lv st ws Post) : G X M F L C S pc lv (.int x :: st) ws Post := by
  obtain ⟨hd, rfl⟩ := hd
  exact fun p e R s m args below meth c H locs kc ks ls I => lv_if_lt I.x I.b hd ht (fun h => kt h p e R s m args below meth c H locs kc ks ls I) (fun h => kf h p e R s m args below meth c H locs kc ks ls I)
theorem g_icmp_lt {x y : Int32} {off : Int} (tgt : Nat) (hd : gD M pc (.if_icmp .lt off) 3 pc') (ht : (pc : Int) + off = (tgt : Int)) (kt : x < y → G X M F L C S tgt lv st ws Post) (kf : ¬ x < y → G X M F L C S pc' lv st ws Post) : G X M F L C S pc lv (.int y :: .int x :: st) ws Post := by
  obtain ⟨hd, rfl⟩ := hd
  exact fun p e R s m args below meth c H locs kc ks ls I => lv_icmp_lt I.x I.b hd ht (fun h => kt h p e R s m args below meth c H locs kc ks ls I) (fun h => kf h p e R s m args below meth c H locs kc ks ls I)
theorem g_if_ge {x : Int32} {off : Int} (tgt : Nat) (hd : gD M pc (.ifCond .ge off) 3 pc') (ht : (pc : Int) + off = (tgt : Int)) (kt : 0 ≤ x → G X M F L C S tgt lv st ws Post) (kf : ¬ 0 ≤ x → G X M F L C S pc' lv st ws Post) : G X M F L C S pc lv (.int x :: st) ws Post := by
  obtain ⟨hd, rfl⟩ := hd
  exact fun p e R s m args below meth c H locs kc ks ls I => lv_if_ge I.x I.b hd ht (fun h => kt h p e R s m args below meth c H locs kc ks ls I) (fun h => kf h p e R s m args below meth c H locs kc ks ls I)
theorem g_icmp_ge {x y : Int32} {off : Int} (tgt : Nat) (hd : gD M pc (.if_icmp .ge off) 3 pc') (ht : (pc : Int) + off = (tgt : Int)) (kt : y ≤ x → G X M F L C S tgt lv st ws Post) (kf : ¬ y ≤ x → G X M F L C S pc' lv st ws Post) : G X M F L C S pc lv (.int y :: .int x :: st) ws Post := by
  obtain ⟨hd, rfl⟩ := hd
  exact fun p e R s m args below meth c H locs kc ks ls I => lv_icmp_ge I.x I.b hd ht (fun h => kt h p e R s m args below meth c H locs kc ks ls I) (fun h => kf h p e R s m args below meth c H locs kc ks ls I)
theorem g_if_gt {x : Int32} {off : Int} (tgt : Nat) (hd : gD M pc (.ifCond .gt off) 3 pc') (ht : (pc : Int) + off = (tgt : Int)) (kt : 0 < x → G X M F L C S tgt lv st ws Post) (kf : ¬ 0 < x → G X M F L C S pc' lv st ws Post) : G X M F L C S pc lv (.int x :: st) ws Post := by
  obtain ⟨hd, rfl⟩ := hd
  exact fun p e R s m args below meth c H locs kc ks ls I => lv_if_gt I.x I.b hd ht (fun h => kt h p e R s m args below meth c H locs kc ks ls I) (fun h => kf h p e R s m args below meth c H locs kc ks ls I)
theorem g_icmp_gt {x y : Int32} {off : Int} (tgt : Nat) (hd : gD M pc (.if_icmp .gt off) 3 pc') (ht : (pc : Int) + off = (tgt : Int)) (kt : y < x → G X M F L C S tgt lv st ws Post) (kf : ¬ y < x → G X M F L C S pc' lv st ws Post) : G X M F L C S pc lv (.int y :: .int x :: st) ws Post := by
  obtain ⟨hd, rfl⟩ := hd
  exact fun p e R s m args below meth c H locs kc ks ls I => lv_icmp_gt I.x I.b hd ht (fun h => kt h p e R s m args below meth c H locs kc ks ls I) (fun h => kf h p e R s m args below meth c H locs kc ks ls I)
theorem g_if_le {x : Int32} {off : Int} (tgt : Nat) (hd : gD M pc (.ifCond .le off) 3 pc') (ht : (pc : Int) + off = (tgt : Int)) (kt : x ≤ 0 → G X M F L C S tgt lv st ws Post) (kf : ¬ x ≤ 0 → G X M F L C S pc' lv st ws Post) : G X M F L C S pc lv (.int x :: st) ws Post := by
  obtain ⟨hd, rfl⟩ := hd
  exact fun p e R s m args below meth c H locs kc ks ls I => lv_if_le I.x I.b hd ht (fun h => kt h p e R s m args below meth c H locs kc ks ls I) (fun h => kf h p e R s m args below meth c H locs kc ks ls I)
theorem g_icmp_le {x y : Int32} {off : Int} (tgt : Nat) (hd : gD M pc (.if_icmp .le off) 3 pc') (ht : (pc : Int) + off = (tgt : Int)) (kt : x ≤ y → G X M F L C S tgt lv st ws Post) (kf : ¬ x ≤ y → G X M F L C S pc' lv st ws Post) : G X M F L C S pc lv (.int y :: .int x :: st) ws Post := by
  obtain ⟨hd, rfl⟩ := hd
  exact fun p e R s m args below meth c H locs kc ks ls I => lv_icmp_le I.x I.b hd ht (fun h => kt h p e R s m args below meth c H locs kc ks ls I) (fun h => kf h p e R s m args below meth c H locs kc ks ls I)
theorem g_goto {off : Int} (tgt : Nat) (hd : gD M pc (.goto off) 3 pc') (ht : (pc : Int) + off = (tgt : Int)) (k : G X M F L C S tgt lv st ws Post) : G X M F L C S pc lv st ws Post := by
  obtain ⟨hd, rfl⟩ := hd
  exact fun p e R s m args below meth c H locs kc ks ls I => lv_goto I.x I.b hd ht (k p e R s m args below meth c H locs kc ks ls I)
theorem g_tabOut {x : Int32} {dflt lo hi : Int} {offs : Array Int} {n : Nat} (tgt : Nat) (hd : gD M pc (.tableswitch dflt lo hi offs) n pc') (h : x.toInt < lo ∨ hi < x.toInt) (ht : (pc : Int) + dflt = (tgt : Int)) (k : G X M F L C S tgt lv st ws Post) : G X M F L C S pc lv (.int x :: st) ws Post := by
  obtain ⟨hd, rfl⟩ := hd
  exact fun p e R s m args below meth c H locs kc ks ls I => lv_tableOut I.x I.b hd h ht (k p e R s m args below meth c H locs kc ks ls I)
theorem g_tabIn {x : Int32} {dflt lo hi off : Int} {offs : Array Int} {n : Nat} (tgt : Nat) (hd : gD M pc (.tableswitch dflt lo hi offs) n pc') (h1 : ¬ x.toInt < lo) (h2 : ¬ hi < x.toInt) (ho : offs[(x.toInt - lo).toNat]? = some off) (ht : (pc : Int) + off = (tgt : Int)) (k : G X M F L C S tgt lv st ws Post) : G X M F L C S pc lv (.int x :: st) ws Post := by
  obtain ⟨hd, rfl⟩ := hd
  exact fun p e R s m args below meth c H locs kc ks ls I => lv_tableIn I.x I.b hd h1 h2 ho ht (k p e R s m args below meth c H locs kc ks ls I)
theorem g_sel (is : List Nat) {lv' : List (Nat × Value)} (h : lsel lv is = lv') (k : G X M F L C S pc lv' st ws Post) : G X M F L C S pc lv st ws Post :=
  fun p e R s m args below meth c H locs kc ks ls I => k p e R s m args below meth c H locs kc ks ls (I.wl (lsel_has I.hl is h))
theorem g_post {Post' : gO → va_W → Prop} (h : ∀ r w, Post' r w → Post r w) (k : G X M F L C S pc lv st ws Post') : G X M F L C S pc lv st ws Post :=
  fun p e R s m args below meth c H locs kc ks ls I => W.mono (fun t ⟨o, r, w, a1, a2, a3, a4, a5⟩ => ⟨o, r, w, a1, a2, a3, h r w a4, a5⟩) (k p e R s m args below meth c H locs kc ks ls I)
theorem g_less {F' L' C' S' : Nat} (hF : F' ≤ F) (hL : L' ≤ L) (hC : C' ≤ C) (hS : S' ≤ S) (k : G X M F' L' C' S' pc lv st ws Post) : G X M F L C S pc lv st ws Post :=
  fun p e R s m args below meth c H locs kc ks ls I => k p e R s m args below meth c H locs kc ks ls ⟨I.1, ⟨Nat.le_trans hF I.2.1.1, Nat.le_trans hL I.2.1.2.1, Nat.le_trans (Nat.add_le_add_left hC _) I.2.1.2.2.1, Nat.le_trans (Nat.add_le_add_left hS _) I.2.1.2.2.2⟩, I.2.2⟩
theorem gE.ret {below : List Frame} {args : Array Value} {s : State} {R : Room} {H : Heap} {locs : List Loc} {p : Program} {m : MethodId} {meth : Method} {c : Code} {kc ks : Nat} {ls : Array Slot} {v : Option Value} (I : gI X M F L C S lv ws p R s m meth c H locs kc ks ls) (hp : Post (.inl v) ws) :
    ∀ t, MQ below (fun _ _ o t => o = .returned v ∧ t.heap = H) args s R.cells R.slots (gA X s) t → gE X below s R Post t := by
  rintro t ⟨o, h1, h2, ⟨rfl, h3⟩, Ls, ⟨-, h4, h5⟩, h6⟩
  exact ⟨_, .inl v, ws, h1, h2, rfl, hp, by rw [h3]; exact I.P, I.dd.weaken (fun _ _ _ h => h.1), Ls, h4, h5, by rw [h3]; exact ⟨I.sS.1, I.sS.2.1, h6⟩⟩
theorem g_iret {v : Int32} (hd : gD M pc .ireturn 1 pc') (hr : M.ret = some .int) (hp : Post (.inl (some (.int v))) ws) : G X M F L C S pc lv [.int v] ws Post := by
  obtain ⟨hd, -⟩ := hd
  intro p e R s m args below meth c H locs kc ks ls I
  have hlocks := I.lk
  refine W.mono (gE.ret (args := args) I hp) (W.widen (k := R.cells) (n := R.slots) (by have := I.2.1.2.2.1; omega) (by have := I.2.1.2.2.2; omega) ?_)
  exact W.iret I.x I.b (I.r.trans hr) (fun t ht _ => ⟨rfl, ht⟩) I.sS.2.2 hd hlocks
theorem g_lret {v : Int64} (hd : gD M pc .lreturn 1 pc') (hr : M.ret = some .long) (hp : Post (.inl (some (.long v))) ws) : G X M F L C S pc lv [.long v] ws Post := by
  obtain ⟨hd, -⟩ := hd
  intro p e R s m args below meth c H locs kc ks ls I
  have hlocks := I.lk
  refine W.mono (gE.ret (args := args) I hp) (W.widen (k := R.cells) (n := R.slots) (by have := I.2.1.2.2.1; omega) (by have := I.2.1.2.2.2; omega) ?_)
  exact W.lret I.x I.b (I.r.trans hr) (fun t ht _ => ⟨rfl, ht⟩) I.sS.2.2 hd hlocks
theorem g_zret {v : Int32} (hz : v = 0 ∨ v = 1) (hd : gD M pc .ireturn 1 pc') (hr : M.ret = some .boolean) (hp : Post (.inl (some (.int v))) ws) : G X M F L C S pc lv [.int v] ws Post := by
  obtain ⟨hd, -⟩ := hd
  intro p e R s m args below meth c H locs kc ks ls I
  have hlocks := I.lk
  refine W.mono (gE.ret (args := args) I hp) (W.widen (k := R.cells) (n := R.slots) (by have := I.2.1.2.2.1; omega) (by have := I.2.1.2.2.2; omega) ?_)
  exact W.zret I.x I.b (I.r.trans hr) (by rcases hz with rfl | rfl <;> decide +kernel) (fun t ht _ => ⟨rfl, ht⟩) I.sS.2.2 hd hlocks
theorem g_vret (hd : gD M pc .return_ 1 pc') (hr : M.ret = none) (hp : Post (.inl none) ws) : G X M F L C S pc lv [] ws Post := by
  obtain ⟨hd, -⟩ := hd
  intro p e R s m args below meth c H locs kc ks ls I
  have hlocks := I.lk
  refine W.mono (gE.ret (args := args) I hp) (W.widen (k := R.cells) (n := R.slots) (by have := I.2.1.2.2.1; omega) (by have := I.2.1.2.2.2; omega) ?_)
  exact W.vret I.x I.b (I.r.trans hr) (fun t ht _ => ⟨rfl, ht⟩) I.sS.2.2 hd hlocks
end GR
end
section
/-! The rules of G for fields and arrays -/
def gLk (own : String) (idx : Nat) (C n d : String) : Prop := Cond.fieldLink own idx C n d ∈ gTW ∨ ∃ h : String, Cond.fieldLinkNest own idx C n d h ∈ gTW
-- a getfield: entry idx of own's pool is field k of class ci
def gFg (own : String) (idx ci k : Nat) : Prop := ∃ (C : String) (T : u_T) (N : Nat), vwCl[ci]? = some (C, T, N) ∧ k < N ∧ (∀ w ∈ u_ws C T N, w ∈ gTW) ∧ gLk own idx (T k).1 (T k).2.1 (T k).2.2.1
-- a putfield: besides, the field's type
def gFp (own : String) (idx ci k : Nat) (ty : FieldType) (fin : Bool) : Prop := ∃ (C : String) (T : u_T) (N : Nat) (ty0 : Nat → FieldType), vwCl[ci]? = some (C, T, N) ∧ k < N ∧ (∀ w ∈ u_ws C T N, w ∈ gTW) ∧ gLk own idx (T k).1 (T k).2.1 (T k).2.2.1 ∧
  (∀ k, k < N → parseFieldDescriptor (T k).2.2.1 = some (ty0 k)) ∧ (∀ a, a < N → ∀ b, b < N → a ≠ b → (T a).2.1 ≠ (T b).2.1) ∧ (T k).2.2.2 = fin ∧ parseFieldDescriptor (T k).2.2.1 = some ty ∧ (fin = true → (T k).1 = own ∧ Cond.fieldLink own idx (T k).1 (T k).2.1 (T k).2.2.1 ∈ gTW)
section GH
variable {X : gX} {M : gM} {F L C S : Nat} {pc pc' tgt : Nat} {lv : List (Nat × Value)} {st : List Value} {ws : va_W} {Post : gO → va_W → Prop}
theorem g_getf {idx ci k q a : Nat} {fs : List Value} {v : Value} (hf : gFg M.y.cls idx ci k) (hd : gD M pc (.getfield idx) 3 pc') (he : ws[q]? = some (a, .inr (ci, fs))) (hv : fs[k]? = some v)
    (kk : G X M F L C S pc' lv (v :: st) ws Post) : G X M F L C S pc lv (.ref a :: st) ws Post := by
  obtain ⟨hd, rfl⟩ := hd
  obtain ⟨C', T, N, hc, hk, hw, hlk⟩ := hf
  intro p e R s m args below meth c H locs kc ks ls I
  rcases hlk with hlk | ⟨h, hlk⟩
  · exact va_get (D := X.D) I.x I.b (I.ts args) hw I.own I.K I.P q he hc k hk (I.w args hlk) (fun _ h => h) hv hd (kk p e R s m args below meth c H locs kc ks ls I)
  · exact va_getN (D := X.D) I.x I.b (I.ts args) hw I.own I.K I.P q he hc k hk (I.w args hlk) (fun _ h => h) hv hd (kk p e R s m args below meth c H locs kc ks ls I)
theorem g_putf {idx ci k q a : Nat} {fs : List Value} {v : Value} {ty : FieldType} (hf : gFp M.y.cls idx ci k ty false) (hd : gD M pc (.putfield idx) 3 pc') (he : ws[q]? = some (a, .inr (ci, fs))) (hn : narrow ty v = v) (hfit : fits ty v = true) (hl : k < fs.length)
    (kk : G X M F L C S pc' lv st (ws.set q (a, .inr (ci, fs.set k v))) Post) : G X M F L C S pc lv (v :: .ref a :: st) ws Post := by
  obtain ⟨hd, rfl⟩ := hd
  obtain ⟨C', T, N, ty0, hc, hk, hw, hlk, hty, hnm, hfin, hpt, -⟩ := hf
  intro p e R s m args below meth c H locs kc ks ls I
  rcases hlk with hlk | ⟨h, hlk⟩
  · exact va_put (D := X.D) I.x I.b (I.ts args) hw ty0 hty hnm I.own I.K I.P I.dd I.sS q he hc k hk (I.w args hlk) (fun _ h => h) hfin hpt hn hfit hl hd (fun H1 locs1 hP hD hS => kk p e R s m args below meth c H1 locs1 kc ks ls (I.to hP hD hS))
  · exact va_putN (D := X.D) I.x I.b (I.ts args) hw ty0 hty hnm I.own I.K I.P I.dd I.sS q he hc k hk (I.w args hlk) (fun _ h => h) hfin hpt hn hfit hl hd (fun H1 locs1 hP hD hS => kk p e R s m args below meth c H1 locs1 kc ks ls (I.to hP hD hS))
theorem g_putF {idx ci k q a : Nat} {fs : List Value} {v : Value} {ty : FieldType} (hf : gFp M.y.cls idx ci k ty true) (hin : M.y.name = "<init>") (hd : gD M pc (.putfield idx) 3 pc') (he : ws[q]? = some (a, .inr (ci, fs))) (hn : narrow ty v = v) (hfit : fits ty v = true) (hl : k < fs.length)
    (kk : G X M F L C S pc' lv st (ws.set q (a, .inr (ci, fs.set k v))) Post) : G X M F L C S pc lv (v :: .ref a :: st) ws Post := by
  obtain ⟨hd, rfl⟩ := hd
  obtain ⟨C', T, N, ty0, hc, hk, hw, -, hty, hnm, hfin, hpt, hfi⟩ := hf
  obtain ⟨h1, hlk⟩ := hfi rfl
  intro p e R s m args below meth c H locs kc ks ls I
  exact va_putF (D := X.D) I.x I.b (I.ts args) hw ty0 hty hnm I.own I.K I.P I.dd I.sS q he hc k hk (I.w args hlk) (fun _ h => h) hfin (I.nm hin) h1 hpt hn hfit hl hd (fun H1 locs1 hP hD hS => kk p e R s m args below meth c H1 locs1 kc ks ls (I.to hP hD hS))
theorem g_iald {q a n j : Nat} {f : Nat → Int32} {i : Int32} (hd : gD M pc .iaload 1 pc') (he : ws[q]? = some (a, .inl (X.cI, n, .inl f))) (hi : i = nI j) (hj : j < n) (hn : n < 2 ^ 31)
    (kk : G X M F L C S pc' lv (.int (f j) :: st) ws Post) : G X M F L C S pc lv (.int i :: .ref a :: st) ws Post := by
  obtain ⟨hd, rfl⟩ := hd
  subst hi
  have hcl : (nI j).toNatClampNeg = j := nI_clamp (Nat.lt_trans hj hn)
  exact fun p e R s m args below meth c H locs kc ks ls I => va_iald (D := X.D) I.x I.b I.K I.P q 0 he rfl (vp_in_nI hj hn) hd (by rw [hcl]; exact kk p e R s m args below meth c H locs kc ks ls I)
theorem g_zald {q a n j : Nat} {f : Nat → Int32} {i : Int32} (hd : gD M pc .baload 1 pc') (he : ws[q]? = some (a, .inl (X.cZ, n, .inl f))) (hi : i = nI j) (hj : j < n) (hn : n < 2 ^ 31)
    (kk : G X M F L C S pc' lv (.int (f j) :: st) ws Post) : G X M F L C S pc lv (.int i :: .ref a :: st) ws Post := by
  obtain ⟨hd, rfl⟩ := hd
  subst hi
  have hcl : (nI j).toNatClampNeg = j := nI_clamp (Nat.lt_trans hj hn)
  exact fun p e R s m args below meth c H locs kc ks ls I => va_zald (D := X.D) I.x I.b I.K I.P q 1 he rfl (vp_in_nI hj hn) hd (by rw [hcl]; exact kk p e R s m args below meth c H locs kc ks ls I)
theorem g_lald {q a n j : Nat} {f : Nat → Int64} {i : Int32} (hd : gD M pc .laload 1 pc') (he : ws[q]? = some (a, .inl (X.cJ, n, .inr (.inl f)))) (hi : i = nI j) (hj : j < n) (hn : n < 2 ^ 31)
    (kk : G X M F L C S pc' lv (.long (f j) :: st) ws Post) : G X M F L C S pc lv (.int i :: .ref a :: st) ws Post := by
  obtain ⟨hd, rfl⟩ := hd
  subst hi
  have hcl : (nI j).toNatClampNeg = j := nI_clamp (Nat.lt_trans hj hn)
  exact fun p e R s m args below meth c H locs kc ks ls I => va_lald (D := X.D) I.x I.b I.K I.P q 2 he rfl (vp_in_nI hj hn) hd (by rw [hcl]; exact kk p e R s m args below meth c H locs kc ks ls I)
theorem g_aald {q a n j : Nat} {f : Nat → Option Nat} {i : Int32} (hd : gD M pc .aaload 1 pc') (he : ws[q]? = some (a, .inl (X.cQ, n, .inr (.inr (.inr (.inr f)))))) (hi : i = nI j) (hj : j < n) (hn : n < 2 ^ 31)
    (kk : G X M F L C S pc' lv (va_rf (f j) :: st) ws Post) : G X M F L C S pc lv (.int i :: .ref a :: st) ws Post := by
  obtain ⟨hd, rfl⟩ := hd
  subst hi
  have hcl : (nI j).toNatClampNeg = j := nI_clamp (Nat.lt_trans hj hn)
  exact fun p e R s m args below meth c H locs kc ks ls I => va_aldq (D := X.D) I.x I.b I.K I.P q 3 he rfl (vp_in_nI hj hn) hd (by rw [hcl]; exact kk p e R s m args below meth c H locs kc ks ls I)
theorem g_iast {q a n j : Nat} {f : Nat → Int32} {i : Int32} {x : Int32} (hd : gD M pc .iastore 1 pc') (he : ws[q]? = some (a, .inl (X.cI, n, .inl f))) (hi : i = nI j) (hj : j < n) (hn : n < 2 ^ 31)
    (kk : G X M F L C S pc' lv st (ws.set q (a, .inl (X.cI, n, .inl (upd f j x)))) Post) : G X M F L C S pc lv (.int x :: .int i :: .ref a :: st) ws Post := by
  obtain ⟨hd, rfl⟩ := hd
  subst hi
  have hcl : (nI j).toNatClampNeg = j := nI_clamp (Nat.lt_trans hj hn)
  exact fun p e R s m args below meth c H locs kc ks ls I => va_iast (D := X.D) I.x I.b I.K I.P I.dd I.sS q 0 he rfl (vp_in_nI hj hn) hd (fun H1 locs1 hP hD hS => by rw [hcl] at hP hD; exact kk p e R s m args below meth c H1 locs1 kc ks ls (I.to hP hD hS))
theorem g_zast {q a n j : Nat} {f : Nat → Int32} {i : Int32} {x : Int32} (hd : gD M pc .bastore 1 pc') (he : ws[q]? = some (a, .inl (X.cZ, n, .inl f))) (hi : i = nI j) (hj : j < n) (hn : n < 2 ^ 31) (hx : vp_nar .boolean x = x)
    (kk : G X M F L C S pc' lv st (ws.set q (a, .inl (X.cZ, n, .inl (upd f j x)))) Post) : G X M F L C S pc lv (.int x :: .int i :: .ref a :: st) ws Post := by
  obtain ⟨hd, rfl⟩ := hd
  subst hi
  have hcl : (nI j).toNatClampNeg = j := nI_clamp (Nat.lt_trans hj hn)
  exact fun p e R s m args below meth c H locs kc ks ls I => va_zast (D := X.D) I.x I.b I.K I.P I.dd I.sS q 1 he rfl (vp_in_nI hj hn) hd (fun H1 locs1 hP hD hS => by rw [hcl, hx] at hP hD; exact kk p e R s m args below meth c H1 locs1 kc ks ls (I.to hP hD hS))
theorem g_last {q a n j : Nat} {f : Nat → Int64} {i : Int32} {x : Int64} (hd : gD M pc .lastore 1 pc') (he : ws[q]? = some (a, .inl (X.cJ, n, .inr (.inl f)))) (hi : i = nI j) (hj : j < n) (hn : n < 2 ^ 31)
    (kk : G X M F L C S pc' lv st (ws.set q (a, .inl (X.cJ, n, .inr (.inl (vp_updL f j x))))) Post) : G X M F L C S pc lv (.long x :: .int i :: .ref a :: st) ws Post := by
  obtain ⟨hd, rfl⟩ := hd
  subst hi
  have hcl : (nI j).toNatClampNeg = j := nI_clamp (Nat.lt_trans hj hn)
  exact fun p e R s m args below meth c H locs kc ks ls I => va_last (D := X.D) I.x I.b I.K I.P I.dd I.sS q 2 he rfl (vp_in_nI hj hn) hd (fun H1 locs1 hP hD hS => by rw [hcl] at hP hD; exact kk p e R s m args below meth c H1 locs1 kc ks ls (I.to hP hD hS))
theorem g_aast {q a n j qk ci v : Nat} {f : Nat → Option Nat} {i : Int32} {vs : List Value} {r : vw_C} (hd : gD M pc .aastore 1 pc') (he : ws[q]? = some (a, .inl (X.cQ, n, .inr (.inr (.inr (.inr f)))))) (hv : ws[qk]? = some (v, .inr (ci, vs))) (hc : vwCl[ci]? = some r) (hr : r.1 = gShape) (hi : i = nI j) (hj : j < n) (hn : n < 2 ^ 31)
    (kk : G X M F L C S pc' lv st (ws.set q (a, .inl (X.cQ, n, .inr (.inr (.inr (.inr (va_up f j (some v)))))))) Post) : G X M F L C S pc lv (.ref v :: .int i :: .ref a :: st) ws Post := by
  obtain ⟨hd, rfl⟩ := hd
  subst hi
  have hcl : (nI j).toNatClampNeg = j := nI_clamp (Nat.lt_trans hj hn)
  exact fun p e R s m args below meth c H locs kc ks ls I => va_astq (D := X.D) I.x I.b I.K I.P I.dd I.sS q 3 qk ci he (by rw [hr]; rfl) hv hc (vp_in_nI hj hn) hd (fun H1 locs1 hP hD hS => by rw [hcl] at hP hD; exact kk p e R s m args below meth c H1 locs1 kc ks ls (I.to hP hD hS))
theorem g_alen {q a : Nat} {x : vp_A} (hd : gD M pc .arraylength 1 pc') (he : ws[q]? = some (a, .inl (X.cI, x)))
    (kk : G X M F L C S pc' lv (.int (nI x.1) :: st) ws Post) : G X M F L C S pc lv (.ref a :: st) ws Post := by
  obtain ⟨hd, rfl⟩ := hd
  exact fun p e R s m args below meth c H locs kc ks ls I => va_alen (D := X.D) I.x I.b I.K I.P q 0 he rfl rfl hd (kk p e R s m args below meth c H locs kc ks ls I)
end GH
end
section
/-! Calls: a method of ours is entered, walked by its own G, and left; or it throws -/
def gCode (M : gM) : Prop := (M.hh = some [] ∧ Cond.code M.y M.code M.maxL M.ret ∈ gTW) ∨ ∃ hh, M.hh = some hh ∧ Cond.codeWith M.y M.code M.maxL M.ret hh ∈ gTW
theorem gCode.spec {M : gM} (h : gCode M) {X : gX} {U : State} (hT : gT X U) : ∃ (mk : MethodId) (meth : Method) (c : Code), U.methodNamed? M.y = some mk ∧ U.vm.method? mk = some meth ∧ meth.code = some c ∧ c.code = M.code ∧ c.maxLocals = M.maxL ∧ (∀ hh, M.hh = some hh → c.exceptionTable.toList.map (fun h => (h.startPc, h.endPc, h.handlerPc, h.catchType)) = hh) ∧ meth.sig.returnType = M.ret ∧ meth.locks = false ∧ parseMethodDescriptor M.y.desc = some meth.sig := by
  rcases h with ⟨h0, h⟩ | ⟨hh, h0, h⟩
  · have hc := hT.1 _ h
    obtain ⟨mk, hn⟩ := Cond.code_named hc
    obtain ⟨meth, c, a1, a2, a3, a4, a5, a6, a7, a8⟩ := Cond.code_spec hn hc
    refine ⟨mk, meth, c, hn, a1, a2, a3, a4, ?_, a5, a6, a8⟩
    have he : c.exceptionTable = #[] := by simpa using a7
    intro hh h2
    rw [h0] at h2
    cases h2
    rw [he]
    rfl
  · obtain ⟨mk, meth, c, hn, a1, a2, a3, a4, a5, a6, a7, a8⟩ := Cond.codeWith_spec (hT.1 _ h)
    refine ⟨mk, meth, c, hn, a1, a2, a3, a4, fun hh' h2 => ?_, a6, a7, a8⟩
    rw [h0] at h2
    cases h2
    exact a5
theorem gSteps.weaken {tb : Tables} {e : Env} {mid below : List Frame} {a b : State} (h : Steps tb e (mid ++ below) a b) : Steps tb e below a b := by
  obtain ⟨n, hn, w⟩ := h
  exact ⟨n, hn, fun k hk => (w k hk).weaken⟩
theorem gHeapTop (T : State) (g : JFrame) : (T.setTop g).heap = T.heap := by simp [State.setTop, State.modifyTopJava, State.setFrames]
theorem gHeapPush (T : State) (g : JFrame) (f : Frame) : ((T.setTop g).pushFrame f).heap = T.heap := by simp [State.pushFrame, State.setFrames, State.setTop, State.modifyTopJava]
theorem gVmPush (T : State) (g : JFrame) (f : Frame) : ((T.setTop g).pushFrame f).vm = T.vm := by simp [State.pushFrame, State.setFrames, State.setTop, State.modifyTopJava]
theorem gVmTop (T : State) (g : JFrame) : (T.setTop g).vm = T.vm := by simp [State.setFrames, State.setTop, State.modifyTopJava]
-- how a call comes back
def gBack (p : Program) (e : Env) (below : List Frame) (T T' : State) (g : JFrame) (len : Nat) (mk : MethodId) (As : List Value) (r : gO) : Prop := match r with
  | .inl v => ∀ acts, Steps p.tables e below (doInvoke e (T.setTop g) acts mk As.toArray).1 (T'.setTop { g with pc := g.pc + len, stack := v.toList ++ g.stack })
  | .inr k => ∃ (x : Addr) (cell : Cell), (∀ acts, Steps p.tables e below (doInvoke e (T.setTop g) acts mk As.toArray).1 ((T'.setTop g).pushFrame (.throwing x))) ∧ T'.heap[x]? = some cell ∧ cell.vm.isStatics = false ∧ T'.vm.findClass (gEx k) = some cell.cls
set_option maxHeartbeats 1000000 in
theorem g_enter {X : gX} {M M' : gM} {F L C S F' L' C' S' : Nat} {lv : List (Nat × Value)} {ws : va_W} {As : List Value} {Post' : gO → va_W → Prop}
    (con : G X M' F' L' C' S' 0 (lv_args 0 As) [] ws Post') (hent : (lg_sl As).length ≤ M'.maxL) (hcode : gCode M') (hplain : plainName M'.y.cls = true)
    {p : Program} {e : Env} {R : Room} {s : State} {m : MethodId} {args : Array Value} {below : List Frame} {meth : Method} {c : Code} {H : Heap} {locs : List Loc} {kc ks : Nat} {ls : Array Slot}
    (I : gI X M F L C S lv ws p R s m meth c H locs kc ks ls) {T : State} (hT : T.heap = H) (Xs : Stand p X.l e R s m args below meth c T locs kc ks)
    {g : JFrame} (hg : g.method = m) (hsize : g.locals.size = c.maxLocals) {ig : Instr} {len : Nat} (hdg : decode c.code g.pc = .ok (ig, len)) {mk : MethodId} (hn : s.methodNamed? M'.y = some mk)
    (hF : F' + 1 ≤ F) (hL : 2 * g.monitorRoom + (g.stack.map fun v => v.category).sum + (M'.maxL + 11) + L' ≤ L) (hC : C' ≤ C) (hS : S' ≤ S) :
    ∃ (r : gO) (ws' : va_W) (T' : State) (Ls : List Loc), Post' r ws' ∧ Stand p X.l e R s m args below meth c T' (locs ++ Ls) (kc + C') (ks + S') ∧
      gI X M F L (C - C') (S - S') lv ws' p R s m meth c T'.heap (locs ++ Ls) (kc + C') (ks + S') ls ∧ gBack p e below T T' g len mk As r := by
  obtain ⟨mk', methk, ck, hn', a1, a2, a3, a4, a5, a6, a7, a8⟩ := hcode.spec I.T
  cases hn.symm.trans hn'
  obtain ⟨⟨rF, rL, rC, rS⟩⟩ := And.intro I.2.1 trivial
  have hTn : T.methodNamed? M'.y = some mk := Xs.named hn
  have hmk : T.vm.method? mk = some methk := by rw [Xs.warmed.alike.method?]; exact a1
  have hpk : T.plainMethod mk := by
    refine State.plainMethod.of_name (fun k hk => ?_)
    obtain ⟨k', hk', hnm⟩ := className_of_methodNamed hTn
    cases hk.symm.trans hk'
    rw [hnm]
    exact hplain
  obtain ⟨Y, hdo⟩ := Xs.into (g := g) hg hsize hdg As.toArray (R' := { frames := F', cells := C', slots := S', locals := L' }) hmk a2 a7 hpk (by show F' + 1 ≤ R.frames; omega) (by show _ + (ck.maxLocals + 11) + L' ≤ R.locals; rw [a4]; omega) (by show kc + C' ≤ R.cells; omega) (by show ks + S' ≤ R.slots; omega)
  have hl := lv_entry As (n := M'.maxL) hent
  have hvm : (T.calling g mk As.toArray).vm = T.vm := by simp [State.calling, State.pushFrame, State.setFrames, State.setTop, State.modifyTopJava]
  have hhp : (T.calling g mk As.toArray).heap = H := by rw [← hT]; simp [State.calling, State.pushFrame, State.setFrames, State.setTop, State.modifyTopJava]
  have hWm : s.WarmedH (T.calling g mk As.toArray).vm := by rw [hvm]; exact Xs.warmed
  have hlow := I.low.of I.sS
  have I' : gI X M' F' L' C' S' (lv_args 0 As) ws p { frames := F', cells := C', slots := S', locals := L' } (T.calling g mk As.toArray) mk methk ck H [] 0 0 ((lg_sl As ++ List.replicate (M'.maxL - (lg_sl As).length) Slot.unset).toArray) := by
    refine ⟨⟨I.x, a3, a4, a6, a7, ?_, a5, fun hi => (name_of_methodNamed hn a1).1.trans hi⟩, ⟨Nat.le_refl _, Nat.le_refl _, by show 0 + C' ≤ C'; omega, by show 0 + S' ≤ S'; omega⟩, hl, I.T.moved hWm, by rw [hhp]; exact hlow, I.P, ⟨I.dd.1, fun k q hk => ⟨(I.dd.2 k q hk).1, fun cell hc => ?_⟩⟩, by rw [hhp]; exact va_S.rf⟩
    · rw [hvm]
      exact findClass_of_methodNamed hTn
    · obtain ⟨cell', h1, h2⟩ := gNS (q := q.1) (x := q.2) I.P hk
      rw [hhp] at hc
      cases h1.symm.trans hc
      exact h2
  obtain ⟨t, hsteps, o, r, ws', b1, b2, b3, b4, b5, b6, Ls, c1, c2, c3⟩ := con p e { frames := F', cells := C', slots := S', locals := L' } (T.calling g mk As.toArray) mk As.toArray (.java g :: below) methk ck H [] 0 0 _ I' _ (by rw [gHeapPush]; exact hT) Y
  have hsteps' : ∀ acts, Steps p.tables e below (doInvoke e (T.setTop g) acts mk As.toArray).1 t := by
    intro acts
    rw [← lg_entry_eq, ← a4] at hsteps
    rw [hdo acts]
    exact gSteps.weaken (mid := [.java g]) hsteps
  have fin : ∀ {T' : State}, Stand p X.l e R s m args below meth c T' (locs ++ Ls) (kc + C') (ks + S') → T'.heap = t.heap → gI X M F L (C - C') (S - S') lv ws' p R s m meth c T'.heap (locs ++ Ls) (kc + C') (ks + S') ls := by
    intro T' X' hh
    have up : ∀ q, gA X (T.calling g mk As.toArray) q → gA X s q := by
      refine fun q h => ⟨h.1, fun c0 h0 => ?_⟩
      obtain ⟨c1', e1, -⟩ := Xs.same.2.2.2.2.2 q c0 h0
      have e1' : T.heap[q]? = some c1' := e1
      rw [← gKind Xs.same h0 e1']
      exact h.2 c1' (by rw [hhp, ← hT]; exact e1')
    refine ⟨I.1, ⟨rF, rL, by omega, by omega⟩, I.hl, I.T, I.low, by rw [hh]; exact b5, ⟨b6.1, fun k q hk => ⟨b6.2 k q hk, fun c0 h0 => ?_⟩⟩, X'.same.2.1, fun q h1 h2 => ?_, fun q hq => ?_⟩
    · obtain ⟨cell', h1, h2⟩ := gNS (q := q.1) (x := q.2) b5 hk
      rw [← gKind X'.same h0 (by rw [hh]; exact h1)]
      exact h2
    · rw [hh, c3.2.1 q (by rw [hhp]; exact Nat.lt_of_lt_of_le h1 I.sS.1) (fun z => h2 (up q z)), hhp]
      exact I.sS.2.1 q h1 h2
    · rcases List.mem_append.mp hq with h | h
      · exact I.sS.2.2 q h
      · exact up _ (c3.2.2 q h)
  cases r with
  | inl v =>
    cases b3
    obtain ⟨T', X', -, -, ht⟩ := Xs.outOf hg hdg b2 c1 c2
    have hh : T'.heap = t.heap := by rw [ht, gHeapTop]
    refine ⟨.inl v, ws', T', Ls, b4, X', fin X' hh, fun acts => ?_⟩
    rw [← ht]
    exact hsteps' acts
  | inr k =>
    obtain ⟨x, cell, rfl, d1, d2, d3⟩ := b3
    obtain ⟨T', X', -, -, ht⟩ := Xs.outOfThrown hg b2 c1 c2
    have hh : T'.heap = t.heap := by rw [ht, gHeapPush]
    have hv : T'.vm = t.vm := by rw [ht, gVmPush]
    refine ⟨.inr k, ws', T', Ls, b4, X', fin X' hh, x, cell, fun acts => ?_, by rw [hh]; exact d1, d2, by rw [hv]; exact d3⟩
    rw [← ht]
    exact hsteps' acts
-- a throw that no row of the table covers leaves the method
theorem g_leave {X : gX} {M : gM} {F L C S : Nat} {lv : List (Nat × Value)} {ws : va_W} {Post : gO → va_W → Prop}
    {p : Program} {e : Env} {R : Room} {s : State} {m : MethodId} {args : Array Value} {below : List Frame} {meth : Method} {c : Code} {H : Heap} {locs : List Loc} {kc ks : Nat} {ls : Array Slot}
    (I : gI X M F L C S lv ws p R s m meth c H locs kc ks ls) (hh : M.hh = some []) {T : State} (hT : T.heap = H) (Xs : Stand p X.l e R s m args below meth c T locs kc ks)
    {g : JFrame} (hg : g.method = m) (hlocked : g.locked = none) (hentered : g.entered = []) {k : Nat} {x : Addr} {cell : Cell} (h1 : T.heap[x]? = some cell) (h2 : cell.vm.isStatics = false) (h3 : T.vm.findClass (gEx k) = some cell.cls) (hp : Post (.inr k) ws) :
    ∃ t, Steps p.tables e below ((T.setTop g).pushFrame (.throwing x)) t ∧ gE X below s R Post t := by
  have hlocks := I.lk
  have he : c.exceptionTable.toList = [] := by
    have := I.tab hh
    simpa using this
  obtain ⟨a1, a2, a3, a4, a5⟩ := Xs.leaveThrown x hg hlocked hentered (by rw [he]; intro y hy; cases hy) hlocks
  refine ⟨_, a1, .threw x, .inr k, ws, a2, a3, ⟨x, cell, rfl, ?_, h2, ?_⟩, hp, ?_, I.dd.weaken (fun _ _ _ h => h.1), locs, a4, a5.mono ?_ ?_, ?_⟩
  · exact h1
  · exact h3
  · show va_P X.D vwCl ws T.heap
    rw [hT]
    exact I.P
  · have := I.2.1.2.2.1; omega
  · have := I.2.1.2.2.2; omega
  · show va_S (gA X s) s.heap T.heap locs
    rw [hT]
    exact I.sS
def gML (own : String) (idx : Nat) (y : MethodName) : Prop := Cond.methodLink own idx y ∈ gTW ∨ ∃ h : String, Cond.methodLinkNest own idx y h ∈ gTW
def gNP (y : MethodName) (n : Nat) : Prop := y.cls ≠ "java/lang/invoke/MethodHandle" ∧ y.cls ≠ "java/lang/invoke/VarHandle" ∧ (parseMethodDescriptor y.desc).map (fun d => d.parameters.length) = some n ∧ plainName y.cls = true
def gCV (own : String) (idx : Nat) (M : gM) (n : Nat) : Prop := gCode M ∧ gML own idx M.y ∧ Cond.instanceMethod M.y ∈ gTW ∧ Cond.selects M.y.cls M.y M.y ∈ gTW ∧ gNP M.y n
def gCS (own : String) (idx : Nat) (M : gM) (n : Nat) : Prop := gCode M ∧ gML own idx M.y ∧ Cond.static M.y ∈ gTW ∧ Cond.initialized M.y.cls ∈ gTW ∧ gNP M.y n
def gCI (own : String) (idx : Nat) (M : gM) (n : Nat) : Prop := gCode M ∧ M.hh = some [] ∧ M.ret = none ∧ Cond.code M.y M.code M.maxL M.ret ∈ gTW ∧ gML own idx M.y ∧ Cond.instanceMethod M.y ∈ gTW ∧ M.y.name = "<init>" ∧ gNP M.y n
section GC
variable {X : gX} {M M' : gM} {F L C S F' L' C' S' : Nat} {pc pc' : Nat} {lv : List (Nat × Value)} {st : List Value} {ws : va_W} {Post Post' : gO → va_W → Prop}
-- what is done when the call is back
theorem g_after {p : Program} {e : Env} {R : Room} {s : State} {m : MethodId} {args : Array Value} {below : List Frame} {meth : Method} {c : Code} {T T' : State} {locs : List Loc} {kc ks : Nat} {ls : Array Slot} {r : gO} {ws' : va_W} {mk : MethodId} {As : List Value}
    (kk : ∀ v w, Post' (.inl v) w → G X M F L C S (pc + 3) lv (v.toList ++ st) w Post) (kt : ∀ k w, Post' (.inr k) w → M.hh = some [] ∧ Post (.inr k) w)
    (hp : Post' r ws') (X' : Stand p X.l e R s m args below meth c T' locs kc ks) (I' : gI X M F L C S lv ws' p R s m meth c T'.heap locs kc ks ls) (hb : gBack p e below T T' (F0 m pc ls st) 3 mk As r) :
    ∃ t, (∀ acts, Steps p.tables e below (doInvoke e (T.setTop (F0 m pc ls st)) acts mk As.toArray).1 t) ∧ gE X below s R Post t := by
  cases r with
  | inl v =>
    obtain ⟨t, h1, h2⟩ := kk v ws' hp p e R s m args below meth c T'.heap locs kc ks ls I' T' rfl X'
    exact ⟨t, fun acts => (hb acts).trans h1, h2⟩
  | inr k =>
    obtain ⟨x, cell, h1, h2, h3, h4⟩ := hb
    obtain ⟨hh, hp'⟩ := kt k ws' hp
    obtain ⟨t, h5, h6⟩ := g_leave (Post := Post) I' hh rfl X' (g := F0 m pc ls st) rfl rfl rfl h2 h3 h4 hp'
    exact ⟨t, fun acts => (h1 acts).trans h5, h6⟩
theorem g_callV {idx n q ci b : Nat} {fs As : List Value} {K : u_T} {N : Nat} (hc : gCV M.y.cls idx M' n) (hd : gD M pc (.invokevirtual idx) 3 pc') (hci : vwCl[ci]? = some (M'.y.cls, K, N)) (he : ws[q]? = some (b, .inr (ci, fs))) (hn : As.length = n)
    (con : G X M' F' L' C' S' 0 (lv_args 0 (.ref b :: As)) [] ws Post') (hent : (lg_sl (.ref b :: As)).length ≤ M'.maxL) (hst : (st.map fun v => v.category).sum ≤ 8)
    (hF : F' + 1 ≤ F) (hL : 8 + (M'.maxL + 11) + L' ≤ L) (hC : C' ≤ C) (hS : S' ≤ S)
    (kk : ∀ v w, Post' (.inl v) w → G X M F L (C - C') (S - S') pc' lv (v.toList ++ st) w Post) (kt : ∀ k w, Post' (.inr k) w → M.hh = some [] ∧ Post (.inr k) w) :
    G X M F L C S pc lv (As.reverse ++ .ref b :: st) ws Post := by
  obtain ⟨hd, rfl⟩ := hd
  obtain ⟨hcode, hlk, hin, hsel, h1, h2, h3, hpl⟩ := hc
  intro p e R s m args below meth c H locs kc ks ls I T hT Xs
  obtain ⟨mk, methM, hnamed, hmethM, hstM, habM⟩ := Cond.instanceMethod_spec (I.w args hin)
  obtain ⟨mk', methk, ck, hn', a1, a2, a3, a4, a5, a6, a7, a8⟩ := hcode.spec I.T
  cases hnamed.symm.trans hn'
  cases hmethM.symm.trans a1
  obtain ⟨c2, r2, m2, q1, q2, q3, q4, kP, hkP, hkPi⟩ := Cond.selects_spec (I.w args hsel)
  obtain ⟨cellB, hcB, hoB, hclB⟩ := va_recv I.K I.P hci he
  cases hclB.symm.trans q1
  cases (State.methodFound?_of_named hnamed ⟨h1, h2⟩).symm.trans q2
  cases hnamed.symm.trans q3
  have hselP : selectMethod e.platform s.vm cellB.cls mk = .method mk := by rw [Launch.admits_selectMethod Xs.admits]; exact q4
  have hlen : As.length = methM.sig.parameters.length := by
    rw [a8] at h3
    exact hn.trans (Option.some.inj h3).symm
  have hdg : decode c.code (F0 m pc ls (As.reverse ++ .ref b :: st)).pc = .ok (.invokevirtual idx, 3) := by rw [I.b]; exact hd
  have go : ∃ vm₁, Stand p X.l e R s m args below meth c (T.setVm vm₁) locs kc ks ∧
      ∀ target, (∀ acts, Steps p.tables e below (doInvoke e ((T.setVm vm₁).setTop (F0 m pc ls st)) acts mk (.ref b :: As).toArray).1 target) → Steps p.tables e below (T.setTop (F0 m pc ls (As.reverse ++ .ref b :: st))) target := by
    rcases hlk with hlk | ⟨h, hlk⟩
    · exact Xs.invokevirtual I.x I.own (I.w args hlk) hnamed hmethM hstM hkP hkPi ⟨h1, h2⟩ (a := b) (cell := cellB) (by rw [hT]; exact hcB) (fun z h => by rw [h] at hoB; cases hoB) hselP hmethM habM hkP hkPi (g := F0 m pc ls (As.reverse ++ .ref b :: st)) rfl (argsL := As) (rest := st) hlen rfl hdg
    · exact Xs.invokevirtualNest I.x I.own (I.w args hlk) hnamed hmethM hstM hkP hkPi ⟨h1, h2⟩ (a := b) (cell := cellB) (by rw [hT]; exact hcB) (fun z h => by rw [h] at hoB; cases hoB) hselP hmethM habM hkP hkPi (g := F0 m pc ls (As.reverse ++ .ref b :: st)) rfl (argsL := As) (rest := st) hlen rfl hdg
  obtain ⟨vm₁, X₁, hstep⟩ := go
  have h8 : 2 * (F0 m pc ls st).monitorRoom + ((F0 m pc ls st).stack.map fun v => v.category).sum ≤ 8 := lv_room hst
  obtain ⟨r, ws', T', Ls, hp, X', I', hb⟩ := g_enter con hent hcode hpl I (T := T.setVm vm₁) hT X₁ (g := F0 m pc ls st) rfl (I.hl.1.trans I.ml.symm) (by rw [I.b]; exact hd) hnamed hF (by omega) hC hS
  obtain ⟨t, h5, h6⟩ := g_after kk kt hp X' I' hb
  exact ⟨t, hstep t h5, h6⟩
theorem g_callS {idx n : Nat} {As : List Value} (hc : gCS M.y.cls idx M' n) (hd : gD M pc (.invokestatic idx) 3 pc') (hn : As.length = n)
    (con : G X M' F' L' C' S' 0 (lv_args 0 As) [] ws Post') (hent : (lg_sl As).length ≤ M'.maxL) (hst : (st.map fun v => v.category).sum ≤ 8)
    (hF : F' + 1 ≤ F) (hL : 8 + (M'.maxL + 11) + L' ≤ L) (hC : C' ≤ C) (hS : S' ≤ S)
    (kk : ∀ v w, Post' (.inl v) w → G X M F L (C - C') (S - S') pc' lv (v.toList ++ st) w Post) (kt : ∀ k w, Post' (.inr k) w → M.hh = some [] ∧ Post (.inr k) w) :
    G X M F L C S pc lv (As.reverse ++ st) ws Post := by
  obtain ⟨hd, rfl⟩ := hd
  obtain ⟨hcode, hlk, hsta, hini, h1, h2, h3, hpl⟩ := hc
  intro p e R s m args below meth c H locs kc ks ls I T hT Xs
  obtain ⟨mk, methk, ck, hnamed, a1, a2, a3, a4, a5, a6, a7, a8⟩ := hcode.spec I.T
  have hstatic : methk.isStatic = true := Cond.static_spec hnamed a1 (I.w args hsta)
  obtain ⟨kP, hkP, -⟩ := className_of_methodNamed hnamed
  have hinitP : kP.init = .initialized := Cond.initialized_spec (findClass_of_methodNamed hnamed) hkP (I.w args hini)
  have hlen : As.length = methk.sig.parameters.length := by
    rw [a8] at h3
    exact hn.trans (Option.some.inj h3).symm
  have hdg : decode c.code (F0 m pc ls (As.reverse ++ st)).pc = .ok (.invokestatic idx, 3) := by rw [I.b]; exact hd
  have go : ∃ vm₁, Stand p X.l e R s m args below meth c (T.setVm vm₁) locs kc ks ∧
      ∀ target, (∀ acts, Steps p.tables e below (doInvoke e ((T.setVm vm₁).setTop (F0 m pc ls st)) acts mk As.toArray).1 target) → Steps p.tables e below (T.setTop (F0 m pc ls (As.reverse ++ st))) target := by
    rcases hlk with hlk | ⟨h, hlk⟩
    · exact Xs.invokestatic I.x I.own (I.w args hlk) hnamed a1 hstatic hkP hinitP ⟨h1, h2⟩ (g := F0 m pc ls (As.reverse ++ st)) rfl (argsL := As) (rest := st) hlen rfl hdg
    · exact Xs.invokestaticNest I.x I.own (I.w args hlk) hnamed a1 hstatic hkP hinitP ⟨h1, h2⟩ (g := F0 m pc ls (As.reverse ++ st)) rfl (argsL := As) (rest := st) hlen rfl hdg
  obtain ⟨vm₁, X₁, hstep⟩ := go
  have h8 : 2 * (F0 m pc ls st).monitorRoom + ((F0 m pc ls st).stack.map fun v => v.category).sum ≤ 8 := lv_room hst
  obtain ⟨r, ws', T', Ls, hp, X', I', hb⟩ := g_enter con hent hcode hpl I (T := T.setVm vm₁) hT X₁ (g := F0 m pc ls st) rfl (I.hl.1.trans I.ml.symm) (by rw [I.b]; exact hd) hnamed hF (by omega) hC hS
  obtain ⟨t, h5, h6⟩ := g_after kk kt hp X' I' hb
  exact ⟨t, hstep t h5, h6⟩
theorem g_callI {idx n b : Nat} {As : List Value} (hc : gCI M.y.cls idx M' n) (hd : gD M pc (.invokespecial idx) 3 pc') (hn : As.length = n)
    (con : G X M' F' L' C' S' 0 (lv_args 0 (.ref b :: As)) [] ws Post') (hent : (lg_sl (.ref b :: As)).length ≤ M'.maxL) (hst : (st.map fun v => v.category).sum ≤ 8)
    (hF : F' + 1 ≤ F) (hL : 8 + (M'.maxL + 11) + L' ≤ L) (hC : C' ≤ C) (hS : S' ≤ S)
    (kk : ∀ v w, Post' (.inl v) w → G X M F L (C - C') (S - S') pc' lv (v.toList ++ st) w Post) (kt : ∀ k w, Post' (.inr k) w → M.hh = some [] ∧ Post (.inr k) w) :
    G X M F L C S pc lv (As.reverse ++ .ref b :: st) ws Post := by
  obtain ⟨hd, rfl⟩ := hd
  obtain ⟨hcode, hh0, hr0, hcw, hlk, hin, hnm, h1, h2, h3, hpl⟩ := hc
  intro p e R s m args below meth c H locs kc ks ls I T hT Xs
  have hpl' : e.platform.magicAccessors = ({} : Platform).magicAccessors := by rw [Xs.admits.platform]
  have hlen : ∀ sig, parseMethodDescriptor M'.y.desc = some sig → As.length = sig.parameters.length := fun sig h => by
    rw [h] at h3
    exact hn.trans (Option.some.inj h3).symm
  have hcw' : (Cond.code M'.y M'.code M'.maxL none).before args s = true := by rw [← hr0]; exact I.w args hcw
  have hdg : decode c.code (F0 m pc ls (As.reverse ++ .ref b :: st)).pc = .ok (.invokespecial idx, 3) := by rw [I.b]; exact hd
  have go : ∃ (mk : MethodId) (vm₁ : Vm), s.methodNamed? M'.y = some mk ∧ s.WarmedH vm₁ ∧
      ∀ target, (∀ acts, Steps p.tables e below (doInvoke e ((T.setVm vm₁).setTop (F0 m pc ls st)) acts mk (.ref b :: As).toArray).1 target) → Steps p.tables e below (T.setTop (F0 m pc ls (As.reverse ++ .ref b :: st))) target := by
    rcases hlk with hlk | ⟨h, hlk⟩
    · obtain ⟨mk, methM, cM, kP, vm₁, hnamed, -, -, -, -, -, -, -, hW₁, hstep₁⟩ := Steps.initColdArgs (e := e) Xs.here I.x Xs.warmed hpl' I.own hnm ⟨h1, h2⟩ (I.w args hlk) (I.w args hin) hcw' (f := F0 m pc ls (As.reverse ++ .ref b :: st)) rfl hlen rfl hdg
      exact ⟨mk, vm₁, hnamed, hW₁, hstep₁⟩
    · obtain ⟨mk, methM, cM, kP, vm₁, hnamed, -, -, -, -, -, -, -, hW₁, hstep₁⟩ := Steps.initColdArgsNest (e := e) Xs.here I.x Xs.warmed hpl' I.own hnm ⟨h1, h2⟩ (I.w args hlk) (I.w args hin) hcw' (f := F0 m pc ls (As.reverse ++ .ref b :: st)) rfl hlen rfl hdg
      exact ⟨mk, vm₁, hnamed, hW₁, hstep₁⟩
  obtain ⟨mk, vm₁, hnamed, hW₁, hstep⟩ := go
  have X₁ := Xs.noted hW₁
  have h8 : 2 * (F0 m pc ls st).monitorRoom + ((F0 m pc ls st).stack.map fun v => v.category).sum ≤ 8 := lv_room hst
  obtain ⟨r, ws', T', Ls, hp, X', I', hb⟩ := g_enter con hent hcode hpl I (T := T.setVm vm₁) hT X₁ (g := F0 m pc ls st) rfl (I.hl.1.trans I.ml.symm) (by rw [I.b]; exact hd) hnamed hF (by omega) hC hS
  obtain ⟨t, h5, h6⟩ := g_after kk kt hp X' I' hb
  exact ⟨t, hstep t h5, h6⟩
end GC
end
section
/-! link rows (wip/emit.py): fields, calls -/
theorem c_A_11 : gCI "SelfArranger" 11 m_T_init 0 := ⟨(Or.inl ⟨rfl, w_34⟩), rfl, rfl, w_34, (Or.inr ⟨"SelfArranger", w_32⟩), w_33, rfl, ⟨by decide, by decide, by decide +kernel, by decide⟩⟩
theorem p_A_12 : gFp "SelfArranger" 12 0 0 (.object "SelfArranger$Table") true := ⟨"SelfArranger", T_A, 14, ty_A, rfl, by decide, ws_A, (Or.inl w_250), tyok_A, nm_A, rfl, by decide +kernel, fun _ => ⟨rfl, w_250⟩⟩
theorem c_A_18 : gCI "SelfArranger" 18 m_C_init 0 := ⟨(Or.inl ⟨rfl, w_60⟩), rfl, rfl, w_60, (Or.inr ⟨"SelfArranger", w_58⟩), w_59, rfl, ⟨by decide, by decide, by decide +kernel, by decide⟩⟩
theorem p_A_19 : gFp "SelfArranger" 19 0 1 (.object "SelfArranger$Conditions") true := ⟨"SelfArranger", T_A, 14, ty_A, rfl, by decide, ws_A, (Or.inl w_251), tyok_A, nm_A, rfl, by decide +kernel, fun _ => ⟨rfl, w_251⟩⟩
theorem g_A_12 : gFg "SelfArranger" 12 0 0 := ⟨"SelfArranger", T_A, 14, rfl, by decide, ws_A, (Or.inl w_250)⟩
theorem c_A_25 : gCI "SelfArranger" 25 m_S_init 1 := ⟨(Or.inl ⟨rfl, w_78⟩), rfl, rfl, w_78, (Or.inr ⟨"SelfArranger", w_76⟩), w_77, rfl, ⟨by decide, by decide, by decide +kernel, by decide⟩⟩
theorem p_A_28 : gFp "SelfArranger" 28 0 2 (.object "SelfArranger$Stretch") true := ⟨"SelfArranger", T_A, 14, ty_A, rfl, by decide, ws_A, (Or.inl w_252), tyok_A, nm_A, rfl, by decide +kernel, fun _ => ⟨rfl, w_252⟩⟩
theorem c_A_34 : gCI "SelfArranger" 34 m_W_init 0 := ⟨(Or.inl ⟨rfl, w_120⟩), rfl, rfl, w_120, (Or.inr ⟨"SelfArranger", w_118⟩), w_119, rfl, ⟨by decide, by decide, by decide +kernel, by decide⟩⟩
theorem p_A_35 : gFp "SelfArranger" 35 0 3 (.object "SelfArranger$WayCosts") true := ⟨"SelfArranger", T_A, 14, ty_A, rfl, by decide, ws_A, (Or.inl w_253), tyok_A, nm_A, rfl, by decide +kernel, fun _ => ⟨rfl, w_253⟩⟩
theorem c_A_41 : gCI "SelfArranger" 41 m_P_init 1 := ⟨(Or.inl ⟨rfl, w_133⟩), rfl, rfl, w_133, (Or.inr ⟨"SelfArranger", w_131⟩), w_132, rfl, ⟨by decide, by decide, by decide +kernel, by decide⟩⟩
theorem p_A_44 : gFp "SelfArranger" 44 0 4 (.object "SelfArranger$Pool") true := ⟨"SelfArranger", T_A, 14, ty_A, rfl, by decide, ws_A, (Or.inl w_254), tyok_A, nm_A, rfl, by decide +kernel, fun _ => ⟨rfl, w_254⟩⟩
theorem c_A_50 : gCI "SelfArranger" 50 m_D_init 0 := ⟨(Or.inl ⟨rfl, w_163⟩), rfl, rfl, w_163, (Or.inr ⟨"SelfArranger", w_161⟩), w_162, rfl, ⟨by decide, by decide, by decide +kernel, by decide⟩⟩
theorem p_A_51 : gFp "SelfArranger" 51 0 5 (.object "SelfArranger$Ledger") true := ⟨"SelfArranger", T_A, 14, ty_A, rfl, by decide, ws_A, (Or.inl w_255), tyok_A, nm_A, rfl, by decide +kernel, fun _ => ⟨rfl, w_255⟩⟩
theorem g_A_28 : gFg "SelfArranger" 28 0 2 := ⟨"SelfArranger", T_A, 14, rfl, by decide, ws_A, (Or.inl w_252)⟩
theorem g_A_51 : gFg "SelfArranger" 51 0 5 := ⟨"SelfArranger", T_A, 14, rfl, by decide, ws_A, (Or.inl w_255)⟩
theorem c_A_57 : gCI "SelfArranger" 57 m_V_init 3 := ⟨(Or.inl ⟨rfl, w_213⟩), rfl, rfl, w_213, (Or.inr ⟨"SelfArranger", w_211⟩), w_212, rfl, ⟨by decide, by decide, by decide +kernel, by decide⟩⟩
theorem p_A_60 : gFp "SelfArranger" 60 0 6 (.object "SelfArranger$Adviser") true := ⟨"SelfArranger", T_A, 14, ty_A, rfl, by decide, ws_A, (Or.inl w_256), tyok_A, nm_A, rfl, by decide +kernel, fun _ => ⟨rfl, w_256⟩⟩
theorem c_A_66 : gCI "SelfArranger" 66 m_B_init 1 := ⟨(Or.inl ⟨rfl, w_229⟩), rfl, rfl, w_229, (Or.inr ⟨"SelfArranger", w_227⟩), w_228, rfl, ⟨by decide, by decide, by decide +kernel, by decide⟩⟩
theorem p_A_67 : gFp "SelfArranger" 67 0 7 (.object "SelfArranger$Builder") true := ⟨"SelfArranger", T_A, 14, ty_A, rfl, by decide, ws_A, (Or.inl w_257), tyok_A, nm_A, rfl, by decide +kernel, fun _ => ⟨rfl, w_257⟩⟩
theorem c_A_73 : gCI "SelfArranger" 73 m_R_init 0 := ⟨(Or.inl ⟨rfl, w_84⟩), rfl, rfl, w_84, (Or.inr ⟨"SelfArranger", w_249⟩), w_83, rfl, ⟨by decide, by decide, by decide +kernel, by decide⟩⟩
theorem p_A_74 : gFp "SelfArranger" 74 0 8 (.object "SelfArranger$RowList") true := ⟨"SelfArranger", T_A, 14, ty_A, rfl, by decide, ws_A, (Or.inl w_258), tyok_A, nm_A, rfl, by decide +kernel, fun _ => ⟨rfl, w_258⟩⟩
theorem p_A_78 : gFp "SelfArranger" 78 0 9 .int false := ⟨"SelfArranger", T_A, 14, ty_A, rfl, by decide, ws_A, (Or.inl w_259), tyok_A, nm_A, rfl, by decide +kernel, fun h => by cases h⟩
theorem p_A_82 : gFp "SelfArranger" 82 0 10 .int false := ⟨"SelfArranger", T_A, 14, ty_A, rfl, by decide, ws_A, (Or.inl w_260), tyok_A, nm_A, rfl, by decide +kernel, fun h => by cases h⟩
theorem p_A_85 : gFp "SelfArranger" 85 0 11 .int false := ⟨"SelfArranger", T_A, 14, ty_A, rfl, by decide, ws_A, (Or.inl w_261), tyok_A, nm_A, rfl, by decide +kernel, fun h => by cases h⟩
theorem p_A_88 : gFp "SelfArranger" 88 0 12 .int false := ⟨"SelfArranger", T_A, 14, ty_A, rfl, by decide, ws_A, (Or.inl w_262), tyok_A, nm_A, rfl, by decide +kernel, fun h => by cases h⟩
theorem p_T_9 : gFp "SelfArranger$Table" 9 1 0 (.array .int) true := ⟨"SelfArranger$Table", T_T, 4, ty_T, rfl, by decide, ws_T, (Or.inl w_36), tyok_T, nm_T, rfl, by decide +kernel, fun _ => ⟨rfl, w_36⟩⟩
theorem p_T_15 : gFp "SelfArranger$Table" 15 1 1 (.array .boolean) true := ⟨"SelfArranger$Table", T_T, 4, ty_T, rfl, by decide, ws_T, (Or.inl w_37), tyok_T, nm_T, rfl, by decide +kernel, fun _ => ⟨rfl, w_37⟩⟩
theorem p_C_9 : gFp "SelfArranger$Conditions" 9 2 0 (.array .int) true := ⟨"SelfArranger$Conditions", T_C, 3, ty_C, rfl, by decide, ws_C, (Or.inl w_62), tyok_C, nm_C, rfl, by decide +kernel, fun _ => ⟨rfl, w_62⟩⟩
theorem p_C_15 : gFp "SelfArranger$Conditions" 15 2 1 (.array .int) true := ⟨"SelfArranger$Conditions", T_C, 3, ty_C, rfl, by decide, ws_C, (Or.inl w_64), tyok_C, nm_C, rfl, by decide +kernel, fun _ => ⟨rfl, w_64⟩⟩
theorem p_C_18 : gFp "SelfArranger$Conditions" 18 2 2 (.array .int) true := ⟨"SelfArranger$Conditions", T_C, 3, ty_C, rfl, by decide, ws_C, (Or.inl w_66), tyok_C, nm_C, rfl, by decide +kernel, fun _ => ⟨rfl, w_66⟩⟩
theorem c_S_11 : gCI "SelfArranger$Stretch" 11 m_R_init 0 := ⟨(Or.inl ⟨rfl, w_84⟩), rfl, rfl, w_84, (Or.inr ⟨"SelfArranger", w_82⟩), w_83, rfl, ⟨by decide, by decide, by decide +kernel, by decide⟩⟩
theorem p_S_12 : gFp "SelfArranger$Stretch" 12 3 1 (.object "SelfArranger$RowList") true := ⟨"SelfArranger$Stretch", T_S, 6, ty_S, rfl, by decide, ws_S, (Or.inl w_97), tyok_S, nm_S, rfl, by decide +kernel, fun _ => ⟨rfl, w_97⟩⟩
theorem p_S_18 : gFp "SelfArranger$Stretch" 18 3 0 (.object "SelfArranger$Table") true := ⟨"SelfArranger$Stretch", T_S, 6, ty_S, rfl, by decide, ws_S, (Or.inl w_96), tyok_S, nm_S, rfl, by decide +kernel, fun _ => ⟨rfl, w_96⟩⟩
theorem p_R_9 : gFp "SelfArranger$RowList" 9 9 0 (.array .int) true := ⟨"SelfArranger$RowList", T_R, 2, ty_R, rfl, by decide, ws_R, (Or.inl w_86), tyok_R, nm_R, rfl, by decide +kernel, fun _ => ⟨rfl, w_86⟩⟩
theorem p_W_9 : gFp "SelfArranger$WayCosts" 9 4 0 (.array .int) true := ⟨"SelfArranger$WayCosts", T_W, 2, ty_W, rfl, by decide, ws_W, (Or.inl w_122), tyok_W, nm_W, rfl, by decide +kernel, fun _ => ⟨rfl, w_122⟩⟩
theorem p_P_20 : gFp "SelfArranger$Pool" 20 5 0 (.array .int) true := ⟨"SelfArranger$Pool", T_P, 5, ty_P, rfl, by decide, ws_P, (Or.inl w_141), tyok_P, nm_P, rfl, by decide +kernel, fun _ => ⟨rfl, w_141⟩⟩
theorem p_P_24 : gFp "SelfArranger$Pool" 24 5 1 (.array .boolean) true := ⟨"SelfArranger$Pool", T_P, 5, ty_P, rfl, by decide, ws_P, (Or.inl w_142), tyok_P, nm_P, rfl, by decide +kernel, fun _ => ⟨rfl, w_142⟩⟩
theorem g_P_20 : gFg "SelfArranger$Pool" 20 5 0 := ⟨"SelfArranger$Pool", T_P, 5, rfl, by decide, ws_P, (Or.inl w_141)⟩
theorem p_D_11 : gFp "SelfArranger$Ledger" 11 6 0 (.array (.object "SelfArranger$Shape")) true := ⟨"SelfArranger$Ledger", T_D, 3, ty_D, rfl, by decide, ws_D, (Or.inl w_193), tyok_D, nm_D, rfl, by decide +kernel, fun _ => ⟨rfl, w_193⟩⟩
theorem g_D_11 : gFg "SelfArranger$Ledger" 11 6 0 := ⟨"SelfArranger$Ledger", T_D, 3, rfl, by decide, ws_D, (Or.inl w_193)⟩
theorem c_D_15 : gCI "SelfArranger$Ledger" 15 m_H_init 0 := ⟨(Or.inl ⟨rfl, w_170⟩), rfl, rfl, w_170, (Or.inr ⟨"SelfArranger", w_168⟩), w_169, rfl, ⟨by decide, by decide, by decide +kernel, by decide⟩⟩
theorem c_H_9 : gCI "SelfArranger$Shape" 9 m_C_init 0 := ⟨(Or.inl ⟨rfl, w_60⟩), rfl, rfl, w_60, (Or.inr ⟨"SelfArranger", w_173⟩), w_59, rfl, ⟨by decide, by decide, by decide +kernel, by decide⟩⟩
theorem p_H_10 : gFp "SelfArranger$Shape" 10 10 0 (.object "SelfArranger$Conditions") true := ⟨"SelfArranger$Shape", T_H, 3, ty_H, rfl, by decide, ws_H, (Or.inl w_176), tyok_H, nm_H, rfl, by decide +kernel, fun _ => ⟨rfl, w_176⟩⟩
theorem c_H_18 : gCI "SelfArranger$Shape" 18 m_W_init 0 := ⟨(Or.inl ⟨rfl, w_120⟩), rfl, rfl, w_120, (Or.inr ⟨"SelfArranger", w_175⟩), w_119, rfl, ⟨by decide, by decide, by decide +kernel, by decide⟩⟩
theorem p_H_19 : gFp "SelfArranger$Shape" 19 10 1 (.object "SelfArranger$WayCosts") true := ⟨"SelfArranger$Shape", T_H, 3, ty_H, rfl, by decide, ws_H, (Or.inl w_180), tyok_H, nm_H, rfl, by decide +kernel, fun _ => ⟨rfl, w_180⟩⟩
theorem p_V_9 : gFp "SelfArranger$Adviser" 9 7 0 (.object "SelfArranger$Table") true := ⟨"SelfArranger$Adviser", T_V, 3, ty_V, rfl, by decide, ws_V, (Or.inl w_215), tyok_V, nm_V, rfl, by decide +kernel, fun _ => ⟨rfl, w_215⟩⟩
theorem p_V_15 : gFp "SelfArranger$Adviser" 15 7 1 (.object "SelfArranger$Stretch") true := ⟨"SelfArranger$Adviser", T_V, 3, ty_V, rfl, by decide, ws_V, (Or.inl w_216), tyok_V, nm_V, rfl, by decide +kernel, fun _ => ⟨rfl, w_216⟩⟩
theorem p_V_19 : gFp "SelfArranger$Adviser" 19 7 2 (.object "SelfArranger$Ledger") true := ⟨"SelfArranger$Adviser", T_V, 3, ty_V, rfl, by decide, ws_V, (Or.inl w_217), tyok_V, nm_V, rfl, by decide +kernel, fun _ => ⟨rfl, w_217⟩⟩
theorem p_B_9 : gFp "SelfArranger$Builder" 9 8 1 (.array .int) true := ⟨"SelfArranger$Builder", T_B, 5, ty_B, rfl, by decide, ws_B, (Or.inl w_232), tyok_B, nm_B, rfl, by decide +kernel, fun _ => ⟨rfl, w_232⟩⟩
theorem p_B_15 : gFp "SelfArranger$Builder" 15 8 0 (.object "SelfArranger$Table") true := ⟨"SelfArranger$Builder", T_B, 5, ty_B, rfl, by decide, ws_B, (Or.inl w_231), tyok_B, nm_B, rfl, by decide +kernel, fun _ => ⟨rfl, w_231⟩⟩
theorem p_B_19 : gFp "SelfArranger$Builder" 19 8 2 .int false := ⟨"SelfArranger$Builder", T_B, 5, ty_B, rfl, by decide, ws_B, (Or.inl w_234), tyok_B, nm_B, rfl, by decide +kernel, fun h => by cases h⟩
theorem c_A_139 : gCV "SelfArranger" 139 m_A_takeCheapestWay 0 := ⟨(Or.inl ⟨rfl, w_300⟩), (Or.inl w_297), w_299, wp_0, ⟨by decide, by decide, by decide +kernel, by decide⟩⟩
theorem c_A_142 : gCV "SelfArranger" 142 m_A_touchPages 0 := ⟨(Or.inl ⟨rfl, w_383⟩), (Or.inl w_380), w_382, wp_18, ⟨by decide, by decide, by decide +kernel, by decide⟩⟩
theorem c_A_145 : gCV "SelfArranger" 145 m_A_findAnswer 0 := ⟨(Or.inl ⟨rfl, w_448⟩), (Or.inl w_445), w_447, wp_31, ⟨by decide, by decide, by decide +kernel, by decide⟩⟩
theorem g_A_19 : gFg "SelfArranger" 19 0 1 := ⟨"SelfArranger", T_A, 14, rfl, by decide, ws_A, (Or.inl w_251)⟩
theorem c_A_148 : gCV "SelfArranger" 148 m_D_noteQuery 1 := ⟨(Or.inl ⟨rfl, w_461⟩), (Or.inr ⟨"SelfArranger", w_458⟩), w_460, wp_33, ⟨by decide, by decide, by decide +kernel, by decide⟩⟩
theorem g_A_74 : gFg "SelfArranger" 74 0 8 := ⟨"SelfArranger", T_A, 14, rfl, by decide, ws_A, (Or.inl w_258)⟩
theorem g_A_152 : gFg "SelfArranger" 152 9 1 := ⟨"SelfArranger$RowList", T_R, 2, rfl, by decide, ws_R, (Or.inr ⟨"SelfArranger", w_90⟩)⟩
theorem g_A_35 : gFg "SelfArranger" 35 0 3 := ⟨"SelfArranger", T_A, 14, rfl, by decide, ws_A, (Or.inl w_253)⟩
theorem c_A_178 : gCV "SelfArranger" 178 m_W_measure 3 := ⟨(Or.inl ⟨rfl, w_304⟩), (Or.inr ⟨"SelfArranger", w_301⟩), w_303, wp_1, ⟨by decide, by decide, by decide +kernel, by decide⟩⟩
theorem g_A_67 : gFg "SelfArranger" 67 0 7 := ⟨"SelfArranger", T_A, 14, rfl, by decide, ws_A, (Or.inl w_257)⟩
theorem c_A_225 : gCV "SelfArranger" 225 m_B_readySet 0 := ⟨(Or.inl ⟨rfl, w_370⟩), (Or.inr ⟨"SelfArranger", w_367⟩), w_369, wp_15, ⟨by decide, by decide, by decide +kernel, by decide⟩⟩
theorem c_A_292 : gCV "SelfArranger" 292 m_W_cheapest 1 := ⟨(Or.inl ⟨rfl, w_374⟩), (Or.inr ⟨"SelfArranger", w_371⟩), w_373, wp_16, ⟨by decide, by decide, by decide +kernel, by decide⟩⟩
theorem g_A_88 : gFg "SelfArranger" 88 0 12 := ⟨"SelfArranger", T_A, 14, rfl, by decide, ws_A, (Or.inl w_262)⟩
theorem c_A_182 : gCV "SelfArranger" 182 m_W_at 1 := ⟨(Or.inl ⟨rfl, w_378⟩), (Or.inr ⟨"SelfArranger", w_379⟩), w_377, wp_17, ⟨by decide, by decide, by decide +kernel, by decide⟩⟩
theorem p_A_164 : gFp "SelfArranger" 164 0 13 .int false := ⟨"SelfArranger", T_A, 14, ty_A, rfl, by decide, ws_A, (Or.inl w_263), tyok_A, nm_A, rfl, by decide +kernel, fun h => by cases h⟩
theorem c_W_15 : gCV "SelfArranger$WayCosts" 15 m_T_heapPages 0 := ⟨(Or.inl ⟨rfl, w_308⟩), (Or.inr ⟨"SelfArranger", w_305⟩), w_307, wp_2, ⟨by decide, by decide, by decide +kernel, by decide⟩⟩
theorem p_W_21 : gFp "SelfArranger$WayCosts" 21 4 1 .int false := ⟨"SelfArranger$WayCosts", T_W, 2, ty_W, rfl, by decide, ws_W, (Or.inl w_123), tyok_W, nm_W, rfl, by decide +kernel, fun h => by cases h⟩
theorem g_W_9 : gFg "SelfArranger$WayCosts" 9 4 0 := ⟨"SelfArranger$WayCosts", T_W, 2, rfl, by decide, ws_W, (Or.inl w_122)⟩
theorem c_W_28 : gCV "SelfArranger$WayCosts" 28 m_C_binds 1 := ⟨(Or.inl ⟨rfl, w_317⟩), (Or.inr ⟨"SelfArranger", w_314⟩), w_316, wp_3, ⟨by decide, by decide, by decide +kernel, by decide⟩⟩
theorem c_W_34 : gCV "SelfArranger$WayCosts" 34 m_S_lay 2 := ⟨(Or.inl ⟨rfl, w_321⟩), (Or.inr ⟨"SelfArranger", w_318⟩), w_320, wp_4, ⟨by decide, by decide, by decide +kernel, by decide⟩⟩
theorem c_W_40 : gCV "SelfArranger$WayCosts" 40 m_S_pages 0 := ⟨(Or.inl ⟨rfl, w_353⟩), (Or.inr ⟨"SelfArranger", w_350⟩), w_352, wp_11, ⟨by decide, by decide, by decide +kernel, by decide⟩⟩
theorem g_T_19 : gFg "SelfArranger$Table" 19 1 2 := ⟨"SelfArranger$Table", T_T, 4, rfl, by decide, ws_T, (Or.inl w_40)⟩
theorem c_T_30 : gCS "SelfArranger$Table" 30 m_A_groupsOfFour 1 := ⟨(Or.inl ⟨rfl, w_311⟩), (Or.inr ⟨"SelfArranger", w_309⟩), w_310, w_1, ⟨by decide, by decide, by decide +kernel, by decide⟩⟩
theorem g_C_9 : gFg "SelfArranger$Conditions" 9 2 0 := ⟨"SelfArranger$Conditions", T_C, 3, rfl, by decide, ws_C, (Or.inl w_62)⟩
theorem p_S_26 : gFp "SelfArranger$Stretch" 26 3 2 .int false := ⟨"SelfArranger$Stretch", T_S, 6, ty_S, rfl, by decide, ws_S, (Or.inl w_99), tyok_S, nm_S, rfl, by decide +kernel, fun h => by cases h⟩
theorem p_S_33 : gFp "SelfArranger$Stretch" 33 3 3 .int false := ⟨"SelfArranger$Stretch", T_S, 6, ty_S, rfl, by decide, ws_S, (Or.inl w_100), tyok_S, nm_S, rfl, by decide +kernel, fun h => by cases h⟩
theorem g_S_33 : gFg "SelfArranger$Stretch" 33 3 3 := ⟨"SelfArranger$Stretch", T_S, 6, rfl, by decide, ws_S, (Or.inl w_100)⟩
theorem g_S_36 : gFg "SelfArranger$Stretch" 36 2 0 := ⟨"SelfArranger$Conditions", T_C, 3, rfl, by decide, ws_C, (Or.inr ⟨"SelfArranger", w_63⟩)⟩
theorem g_S_26 : gFg "SelfArranger$Stretch" 26 3 2 := ⟨"SelfArranger$Stretch", T_S, 6, rfl, by decide, ws_S, (Or.inl w_99)⟩
theorem c_S_41 : gCV "SelfArranger$Stretch" 41 m_C_binds 1 := ⟨(Or.inl ⟨rfl, w_317⟩), (Or.inr ⟨"SelfArranger", w_325⟩), w_316, wp_3, ⟨by decide, by decide, by decide +kernel, by decide⟩⟩
theorem p_S_45 : gFp "SelfArranger$Stretch" 45 3 4 .boolean false := ⟨"SelfArranger$Stretch", T_S, 6, ty_S, rfl, by decide, ws_S, (Or.inl w_101), tyok_S, nm_S, rfl, by decide +kernel, fun h => by cases h⟩
theorem p_S_49 : gFp "SelfArranger$Stretch" 49 3 5 .int false := ⟨"SelfArranger$Stretch", T_S, 6, ty_S, rfl, by decide, ws_S, (Or.inl w_102), tyok_S, nm_S, rfl, by decide +kernel, fun h => by cases h⟩
theorem g_S_12 : gFg "SelfArranger$Stretch" 12 3 1 := ⟨"SelfArranger$Stretch", T_S, 6, rfl, by decide, ws_S, (Or.inl w_97)⟩
theorem p_S_52 : gFp "SelfArranger$Stretch" 52 9 1 .int false := ⟨"SelfArranger$RowList", T_R, 2, ty_R, rfl, by decide, ws_R, (Or.inr ⟨"SelfArranger", w_89⟩), tyok_R, nm_R, rfl, by decide +kernel, fun h => by cases h⟩
theorem g_S_18 : gFg "SelfArranger$Stretch" 18 3 0 := ⟨"SelfArranger$Stretch", T_S, 6, rfl, by decide, ws_S, (Or.inl w_96)⟩
theorem g_S_55 : gFg "SelfArranger$Stretch" 55 1 2 := ⟨"SelfArranger$Table", T_T, 4, rfl, by decide, ws_T, (Or.inr ⟨"SelfArranger", w_41⟩)⟩
theorem g_S_60 : gFg "SelfArranger$Stretch" 60 1 1 := ⟨"SelfArranger$Table", T_T, 4, rfl, by decide, ws_T, (Or.inr ⟨"SelfArranger", w_38⟩)⟩
theorem c_S_64 : gCV "SelfArranger$Stretch" 64 m_S_place 2 := ⟨(Or.inl ⟨rfl, w_329⟩), (Or.inl w_326), w_328, wp_5, ⟨by decide, by decide, by decide +kernel, by decide⟩⟩
theorem c_S_68 : gCV "SelfArranger$Stretch" 68 m_S_isBefore 2 := ⟨(Or.inl ⟨rfl, w_333⟩), (Or.inl w_330), w_332, wp_6, ⟨by decide, by decide, by decide +kernel, by decide⟩⟩
theorem g_S_49 : gFg "SelfArranger$Stretch" 49 3 5 := ⟨"SelfArranger$Stretch", T_S, 6, rfl, by decide, ws_S, (Or.inl w_102)⟩
theorem c_S_72 : gCV "SelfArranger$Stretch" 72 m_S_isInside 2 := ⟨(Or.inl ⟨rfl, w_341⟩), (Or.inl w_338), w_340, wp_8, ⟨by decide, by decide, by decide +kernel, by decide⟩⟩
theorem c_S_75 : gCV "SelfArranger$Stretch" 75 m_R_append 1 := ⟨(Or.inl ⟨rfl, w_349⟩), (Or.inr ⟨"SelfArranger", w_346⟩), w_348, wp_10, ⟨by decide, by decide, by decide +kernel, by decide⟩⟩
theorem c_S_79 : gCV "SelfArranger$Stretch" 79 m_T_at 2 := ⟨(Or.inl ⟨rfl, w_337⟩), (Or.inr ⟨"SelfArranger", w_334⟩), w_336, wp_7, ⟨by decide, by decide, by decide +kernel, by decide⟩⟩
theorem g_S_83 : gFg "SelfArranger$Stretch" 83 2 1 := ⟨"SelfArranger$Conditions", T_C, 3, rfl, by decide, ws_C, (Or.inr ⟨"SelfArranger", w_65⟩)⟩
theorem g_S_45 : gFg "SelfArranger$Stretch" 45 3 4 := ⟨"SelfArranger$Stretch", T_S, 6, rfl, by decide, ws_S, (Or.inl w_101)⟩
theorem g_T_9 : gFg "SelfArranger$Table" 9 1 0 := ⟨"SelfArranger$Table", T_T, 4, rfl, by decide, ws_T, (Or.inl w_36)⟩
theorem c_S_86 : gCV "SelfArranger$Stretch" 86 m_C_fit 2 := ⟨(Or.inl ⟨rfl, w_345⟩), (Or.inr ⟨"SelfArranger", w_342⟩), w_344, wp_9, ⟨by decide, by decide, by decide +kernel, by decide⟩⟩
theorem g_C_15 : gFg "SelfArranger$Conditions" 15 2 1 := ⟨"SelfArranger$Conditions", T_C, 3, rfl, by decide, ws_C, (Or.inl w_64)⟩
theorem g_C_18 : gFg "SelfArranger$Conditions" 18 2 2 := ⟨"SelfArranger$Conditions", T_C, 3, rfl, by decide, ws_C, (Or.inl w_66)⟩
theorem g_R_15 : gFg "SelfArranger$RowList" 15 9 1 := ⟨"SelfArranger$RowList", T_R, 2, rfl, by decide, ws_R, (Or.inl w_88)⟩
theorem g_R_9 : gFg "SelfArranger$RowList" 9 9 0 := ⟨"SelfArranger$RowList", T_R, 2, rfl, by decide, ws_R, (Or.inl w_86)⟩
theorem p_R_15 : gFp "SelfArranger$RowList" 15 9 1 .int false := ⟨"SelfArranger$RowList", T_R, 2, ty_R, rfl, by decide, ws_R, (Or.inl w_88), tyok_R, nm_R, rfl, by decide +kernel, fun h => by cases h⟩
theorem c_S_103 : gCV "SelfArranger$Stretch" 103 m_T_indexHeight 0 := ⟨(Or.inl ⟨rfl, w_357⟩), (Or.inr ⟨"SelfArranger", w_354⟩), w_356, wp_12, ⟨by decide, by decide, by decide +kernel, by decide⟩⟩
theorem c_S_106 : gCV "SelfArranger$Stretch" 106 m_S_leaves 0 := ⟨(Or.inl ⟨rfl, w_366⟩), (Or.inl w_363), w_365, wp_14, ⟨by decide, by decide, by decide +kernel, by decide⟩⟩
theorem g_S_52 : gFg "SelfArranger$Stretch" 52 9 1 := ⟨"SelfArranger$RowList", T_R, 2, rfl, by decide, ws_R, (Or.inr ⟨"SelfArranger", w_89⟩)⟩
theorem c_T_40 : gCV "SelfArranger$Table" 40 m_T_indexLeaves 0 := ⟨(Or.inl ⟨rfl, w_361⟩), (Or.inl w_358), w_360, wp_13, ⟨by decide, by decide, by decide +kernel, by decide⟩⟩
theorem g_T_27 : gFg "SelfArranger$Table" 27 1 3 := ⟨"SelfArranger$Table", T_T, 4, rfl, by decide, ws_T, (Or.inl w_44)⟩
theorem g_B_9 : gFg "SelfArranger$Builder" 9 8 1 := ⟨"SelfArranger$Builder", T_B, 5, rfl, by decide, ws_B, (Or.inl w_232)⟩
theorem c_W_43 : gCV "SelfArranger$WayCosts" 43 m_W_at 1 := ⟨(Or.inl ⟨rfl, w_378⟩), (Or.inl w_375), w_377, wp_17, ⟨by decide, by decide, by decide +kernel, by decide⟩⟩
theorem g_W_21 : gFg "SelfArranger$WayCosts" 21 4 1 := ⟨"SelfArranger$WayCosts", T_W, 2, rfl, by decide, ws_W, (Or.inl w_123)⟩
theorem g_A_44 : gFg "SelfArranger" 44 0 4 := ⟨"SelfArranger", T_A, 14, rfl, by decide, ws_A, (Or.inl w_254)⟩
theorem c_A_295 : gCV "SelfArranger" 295 m_P_countAnew 0 := ⟨(Or.inl ⟨rfl, w_387⟩), (Or.inr ⟨"SelfArranger", w_384⟩), w_386, wp_19, ⟨by decide, by decide, by decide +kernel, by decide⟩⟩
theorem c_A_298 : gCV "SelfArranger" 298 m_A_touchHeap 0 := ⟨(Or.inl ⟨rfl, w_391⟩), (Or.inl w_388), w_390, wp_20, ⟨by decide, by decide, by decide +kernel, by decide⟩⟩
theorem c_A_301 : gCV "SelfArranger" 301 m_A_touchIndex 1 := ⟨(Or.inl ⟨rfl, w_412⟩), (Or.inl w_409), w_411, wp_25, ⟨by decide, by decide, by decide +kernel, by decide⟩⟩
theorem p_P_28 : gFp "SelfArranger$Pool" 28 5 3 .int false := ⟨"SelfArranger$Pool", T_P, 5, ty_P, rfl, by decide, ws_P, (Or.inl w_144), tyok_P, nm_P, rfl, by decide +kernel, fun h => by cases h⟩
theorem p_P_32 : gFp "SelfArranger$Pool" 32 5 4 .int false := ⟨"SelfArranger$Pool", T_P, 5, ty_P, rfl, by decide, ws_P, (Or.inl w_146), tyok_P, nm_P, rfl, by decide +kernel, fun h => by cases h⟩
theorem c_A_304 : gCV "SelfArranger" 304 m_T_heapPages 0 := ⟨(Or.inl ⟨rfl, w_308⟩), (Or.inr ⟨"SelfArranger", w_392⟩), w_307, wp_2, ⟨by decide, by decide, by decide +kernel, by decide⟩⟩
theorem c_A_307 : gCV "SelfArranger" 307 m_P_touch 3 := ⟨(Or.inl ⟨rfl, w_396⟩), (Or.inr ⟨"SelfArranger", w_393⟩), w_395, wp_21, ⟨by decide, by decide, by decide +kernel, by decide⟩⟩
theorem g_P_28 : gFg "SelfArranger$Pool" 28 5 3 := ⟨"SelfArranger$Pool", T_P, 5, rfl, by decide, ws_P, (Or.inl w_144)⟩
theorem c_P_35 : gCV "SelfArranger$Pool" 35 m_P_frameOf 1 := ⟨(Or.inl ⟨rfl, w_400⟩), (Or.inl w_397), w_399, wp_22, ⟨by decide, by decide, by decide +kernel, by decide⟩⟩
theorem g_P_32 : gFg "SelfArranger$Pool" 32 5 4 := ⟨"SelfArranger$Pool", T_P, 5, rfl, by decide, ws_P, (Or.inl w_146)⟩
theorem c_P_39 : gCV "SelfArranger$Pool" 39 m_P_freeFrame 0 := ⟨(Or.inl ⟨rfl, w_404⟩), (Or.inl w_401), w_403, wp_23, ⟨by decide, by decide, by decide +kernel, by decide⟩⟩
theorem g_P_24 : gFg "SelfArranger$Pool" 24 5 1 := ⟨"SelfArranger$Pool", T_P, 5, rfl, by decide, ws_P, (Or.inl w_142)⟩
theorem g_P_43 : gFg "SelfArranger$Pool" 43 5 2 := ⟨"SelfArranger$Pool", T_P, 5, rfl, by decide, ws_P, (Or.inl w_143)⟩
theorem c_P_46 : gCV "SelfArranger$Pool" 46 m_P_moveHand 0 := ⟨(Or.inl ⟨rfl, w_408⟩), (Or.inl w_405), w_407, wp_24, ⟨by decide, by decide, by decide +kernel, by decide⟩⟩
theorem p_P_43 : gFp "SelfArranger$Pool" 43 5 2 .int false := ⟨"SelfArranger$Pool", T_P, 5, ty_P, rfl, by decide, ws_P, (Or.inl w_143), tyok_P, nm_P, rfl, by decide +kernel, fun h => by cases h⟩
theorem c_A_310 : gCV "SelfArranger" 310 m_S_lay 2 := ⟨(Or.inl ⟨rfl, w_321⟩), (Or.inr ⟨"SelfArranger", w_413⟩), w_320, wp_4, ⟨by decide, by decide, by decide +kernel, by decide⟩⟩
theorem c_A_314 : gCV "SelfArranger" 314 m_S_firstLeaf 0 := ⟨(Or.inl ⟨rfl, w_417⟩), (Or.inr ⟨"SelfArranger", w_414⟩), w_416, wp_26, ⟨by decide, by decide, by decide +kernel, by decide⟩⟩
theorem c_A_188 : gCV "SelfArranger" 188 m_T_indexHeight 0 := ⟨(Or.inl ⟨rfl, w_357⟩), (Or.inr ⟨"SelfArranger", w_420⟩), w_356, wp_12, ⟨by decide, by decide, by decide +kernel, by decide⟩⟩
theorem c_A_317 : gCS "SelfArranger" 317 m_A_nodeAbove 2 := ⟨(Or.inl ⟨rfl, w_423⟩), (Or.inl w_421), w_422, w_1, ⟨by decide, by decide, by decide +kernel, by decide⟩⟩
theorem c_A_320 : gCV "SelfArranger" 320 m_S_leaves 0 := ⟨(Or.inl ⟨rfl, w_366⟩), (Or.inr ⟨"SelfArranger", w_424⟩), w_365, wp_14, ⟨by decide, by decide, by decide +kernel, by decide⟩⟩
theorem c_A_323 : gCV "SelfArranger" 323 m_S_sort 0 := ⟨(Or.inl ⟨rfl, w_428⟩), (Or.inr ⟨"SelfArranger", w_425⟩), w_427, wp_27, ⟨by decide, by decide, by decide +kernel, by decide⟩⟩
theorem g_A_326 : gFg "SelfArranger" 326 3 1 := ⟨"SelfArranger$Stretch", T_S, 6, rfl, by decide, ws_S, (Or.inr ⟨"SelfArranger", w_98⟩)⟩
theorem g_A_160 : gFg "SelfArranger" 160 9 0 := ⟨"SelfArranger$RowList", T_R, 2, rfl, by decide, ws_R, (Or.inr ⟨"SelfArranger", w_87⟩)⟩
theorem c_S_94 : gCV "SelfArranger$Stretch" 94 m_T_indexLeaves 0 := ⟨(Or.inl ⟨rfl, w_361⟩), (Or.inr ⟨"SelfArranger", w_418⟩), w_360, wp_13, ⟨by decide, by decide, by decide +kernel, by decide⟩⟩
theorem c_S_90 : gCV "SelfArranger$Stretch" 90 m_R_sort 3 := ⟨(Or.inl ⟨rfl, w_432⟩), (Or.inr ⟨"SelfArranger", w_429⟩), w_431, wp_28, ⟨by decide, by decide, by decide +kernel, by decide⟩⟩
theorem c_R_19 : gCV "SelfArranger$RowList" 19 m_T_isAfter 4 := ⟨(Or.inl ⟨rfl, w_436⟩), (Or.inr ⟨"SelfArranger", w_433⟩), w_435, wp_29, ⟨by decide, by decide, by decide +kernel, by decide⟩⟩
theorem c_T_51 : gCV "SelfArranger$Table" 51 m_T_compare 3 := ⟨(Or.inl ⟨rfl, w_440⟩), (Or.inl w_437), w_439, wp_30, ⟨by decide, by decide, by decide +kernel, by decide⟩⟩
theorem c_T_55 : gCV "SelfArranger$Table" 55 m_T_at 2 := ⟨(Or.inl ⟨rfl, w_337⟩), (Or.inl w_441), w_336, wp_7, ⟨by decide, by decide, by decide +kernel, by decide⟩⟩
theorem c_T_58 : gCS "SelfArranger$Table" 58 m_J_compare 2 := ⟨(Or.inl ⟨rfl, w_444⟩), (Or.inl w_442), w_443, w_20, ⟨by decide, by decide, by decide +kernel, by decide⟩⟩
theorem p_A_152 : gFp "SelfArranger" 152 9 1 .int false := ⟨"SelfArranger$RowList", T_R, 2, ty_R, rfl, by decide, ws_R, (Or.inr ⟨"SelfArranger", w_90⟩), tyok_R, nm_R, rfl, by decide +kernel, fun h => by cases h⟩
theorem g_A_274 : gFg "SelfArranger" 274 1 2 := ⟨"SelfArranger$Table", T_T, 4, rfl, by decide, ws_T, (Or.inr ⟨"SelfArranger", w_43⟩)⟩
theorem g_A_277 : gFg "SelfArranger" 277 1 1 := ⟨"SelfArranger$Table", T_T, 4, rfl, by decide, ws_T, (Or.inr ⟨"SelfArranger", w_39⟩)⟩
theorem c_A_329 : gCV "SelfArranger" 329 m_C_fitRow 2 := ⟨(Or.inl ⟨rfl, w_452⟩), (Or.inr ⟨"SelfArranger", w_449⟩), w_451, wp_32, ⟨by decide, by decide, by decide +kernel, by decide⟩⟩
theorem c_A_333 : gCV "SelfArranger" 333 m_R_append 1 := ⟨(Or.inl ⟨rfl, w_349⟩), (Or.inr ⟨"SelfArranger", w_455⟩), w_348, wp_10, ⟨by decide, by decide, by decide +kernel, by decide⟩⟩
theorem g_A_78 : gFg "SelfArranger" 78 0 9 := ⟨"SelfArranger", T_A, 14, rfl, by decide, ws_A, (Or.inl w_259)⟩
theorem c_A_336 : gCV "SelfArranger" 336 m_R_sort 3 := ⟨(Or.inl ⟨rfl, w_432⟩), (Or.inr ⟨"SelfArranger", w_456⟩), w_431, wp_28, ⟨by decide, by decide, by decide +kernel, by decide⟩⟩
theorem g_A_82 : gFg "SelfArranger" 82 0 10 := ⟨"SelfArranger", T_A, 14, rfl, by decide, ws_A, (Or.inl w_260)⟩
theorem c_C_25 : gCV "SelfArranger$Conditions" 25 m_T_at 2 := ⟨(Or.inl ⟨rfl, w_337⟩), (Or.inr ⟨"SelfArranger", w_453⟩), w_336, wp_7, ⟨by decide, by decide, by decide +kernel, by decide⟩⟩
theorem c_C_31 : gCV "SelfArranger$Conditions" 31 m_C_fit 2 := ⟨(Or.inl ⟨rfl, w_345⟩), (Or.inl w_454), w_344, wp_9, ⟨by decide, by decide, by decide +kernel, by decide⟩⟩
theorem c_D_16 : gCV "SelfArranger$Ledger" 16 m_C_kindsCode 0 := ⟨(Or.inl ⟨rfl, w_465⟩), (Or.inr ⟨"SelfArranger", w_462⟩), w_464, wp_34, ⟨by decide, by decide, by decide +kernel, by decide⟩⟩
theorem c_D_22 : gCV "SelfArranger$Ledger" 22 m_D_placeOf 1 := ⟨(Or.inl ⟨rfl, w_469⟩), (Or.inl w_466), w_468, wp_35, ⟨by decide, by decide, by decide +kernel, by decide⟩⟩
theorem g_D_26 : gFg "SelfArranger$Ledger" 26 6 1 := ⟨"SelfArranger$Ledger", T_D, 3, rfl, by decide, ws_D, (Or.inl w_197)⟩
theorem p_D_26 : gFp "SelfArranger$Ledger" 26 6 1 .int false := ⟨"SelfArranger$Ledger", T_D, 3, ty_D, rfl, by decide, ws_D, (Or.inl w_197), tyok_D, nm_D, rfl, by decide +kernel, fun h => by cases h⟩
theorem g_D_30 : gFg "SelfArranger$Ledger" 30 10 2 := ⟨"SelfArranger$Shape", T_H, 3, rfl, by decide, ws_H, (Or.inr ⟨"SelfArranger", w_183⟩)⟩
theorem p_D_30 : gFp "SelfArranger$Ledger" 30 10 2 .int false := ⟨"SelfArranger$Shape", T_H, 3, ty_H, rfl, by decide, ws_H, (Or.inr ⟨"SelfArranger", w_183⟩), tyok_H, nm_H, rfl, by decide +kernel, fun h => by cases h⟩
theorem g_D_33 : gFg "SelfArranger$Ledger" 33 10 0 := ⟨"SelfArranger$Shape", T_H, 3, rfl, by decide, ws_H, (Or.inr ⟨"SelfArranger", w_178⟩)⟩
theorem c_D_37 : gCV "SelfArranger$Ledger" 37 m_C_copy 1 := ⟨(Or.inl ⟨rfl, w_473⟩), (Or.inr ⟨"SelfArranger", w_470⟩), w_472, wp_36, ⟨by decide, by decide, by decide +kernel, by decide⟩⟩
theorem c_C_21 : gCV "SelfArranger$Conditions" 21 m_C_put 4 := ⟨(Or.inl ⟨rfl, w_477⟩), (Or.inl w_474), w_476, wp_37, ⟨by decide, by decide, by decide +kernel, by decide⟩⟩
theorem g_A_206 : gFg "SelfArranger" 206 6 1 := ⟨"SelfArranger$Ledger", T_D, 3, rfl, by decide, ws_D, (Or.inr ⟨"SelfArranger", w_198⟩)⟩
theorem g_A_233 : gFg "SelfArranger" 233 6 2 := ⟨"SelfArranger$Ledger", T_D, 3, rfl, by decide, ws_D, (Or.inr ⟨"SelfArranger", w_201⟩)⟩
theorem c_A_236 : gCV "SelfArranger" 236 m_D_fade 0 := ⟨(Or.inl ⟨rfl, w_493⟩), (Or.inr ⟨"SelfArranger", w_490⟩), w_492, wp_38, ⟨by decide, by decide, by decide +kernel, by decide⟩⟩
theorem g_D_41 : gFg "SelfArranger$Ledger" 41 6 2 := ⟨"SelfArranger$Ledger", T_D, 3, rfl, by decide, ws_D, (Or.inl w_200)⟩
theorem c_D_44 : gCS "SelfArranger$Ledger" 44 m_D_threeQuarters 1 := ⟨(Or.inl ⟨rfl, w_496⟩), (Or.inl w_494), w_495, w_9, ⟨by decide, by decide, by decide +kernel, by decide⟩⟩
theorem p_D_41 : gFp "SelfArranger$Ledger" 41 6 2 .int false := ⟨"SelfArranger$Ledger", T_D, 3, ty_D, rfl, by decide, ws_D, (Or.inl w_200), tyok_D, nm_D, rfl, by decide +kernel, fun h => by cases h⟩
theorem g_A_60 : gFg "SelfArranger" 60 0 6 := ⟨"SelfArranger", T_A, 14, rfl, by decide, ws_A, (Or.inl w_256)⟩
theorem c_A_241 : gCV "SelfArranger" 241 m_V_measure 0 := ⟨(Or.inl ⟨rfl, w_504⟩), (Or.inr ⟨"SelfArranger", w_501⟩), w_503, wp_39, ⟨by decide, by decide, by decide +kernel, by decide⟩⟩
theorem g_A_85 : gFg "SelfArranger" 85 0 11 := ⟨"SelfArranger", T_A, 14, rfl, by decide, ws_A, (Or.inl w_261)⟩
theorem c_A_243 : gCV "SelfArranger" 243 m_V_bestSet 1 := ⟨(Or.inl ⟨rfl, w_509⟩), (Or.inr ⟨"SelfArranger", w_506⟩), w_508, wp_40, ⟨by decide, by decide, by decide +kernel, by decide⟩⟩
theorem g_V_19 : gFg "SelfArranger$Adviser" 19 7 2 := ⟨"SelfArranger$Adviser", T_V, 3, rfl, by decide, ws_V, (Or.inl w_217)⟩
theorem g_V_23 : gFg "SelfArranger$Adviser" 23 6 1 := ⟨"SelfArranger$Ledger", T_D, 3, rfl, by decide, ws_D, (Or.inr ⟨"SelfArranger", w_196⟩)⟩
theorem g_V_29 : gFg "SelfArranger$Adviser" 29 6 0 := ⟨"SelfArranger$Ledger", T_D, 3, rfl, by decide, ws_D, (Or.inr ⟨"SelfArranger", w_194⟩)⟩
theorem g_V_33 : gFg "SelfArranger$Adviser" 33 10 1 := ⟨"SelfArranger$Shape", T_H, 3, rfl, by decide, ws_H, (Or.inr ⟨"SelfArranger", w_181⟩)⟩
theorem g_V_9 : gFg "SelfArranger$Adviser" 9 7 0 := ⟨"SelfArranger$Adviser", T_V, 3, rfl, by decide, ws_V, (Or.inl w_215)⟩
theorem g_V_15 : gFg "SelfArranger$Adviser" 15 7 1 := ⟨"SelfArranger$Adviser", T_V, 3, rfl, by decide, ws_V, (Or.inl w_216)⟩
theorem g_V_39 : gFg "SelfArranger$Adviser" 39 10 0 := ⟨"SelfArranger$Shape", T_H, 3, rfl, by decide, ws_H, (Or.inr ⟨"SelfArranger", w_177⟩)⟩
theorem c_V_43 : gCV "SelfArranger$Adviser" 43 m_W_measure 3 := ⟨(Or.inl ⟨rfl, w_304⟩), (Or.inr ⟨"SelfArranger", w_505⟩), w_303, wp_1, ⟨by decide, by decide, by decide +kernel, by decide⟩⟩
theorem c_V_70 : gCV "SelfArranger$Adviser" 70 m_T_indexSize 0 := ⟨(Or.inl ⟨rfl, w_513⟩), (Or.inr ⟨"SelfArranger", w_510⟩), w_512, wp_41, ⟨by decide, by decide, by decide +kernel, by decide⟩⟩
theorem c_V_73 : gCV "SelfArranger$Adviser" 73 m_V_setCost 1 := ⟨(Or.inl ⟨rfl, w_518⟩), (Or.inl w_515), w_517, wp_42, ⟨by decide, by decide, by decide +kernel, by decide⟩⟩
theorem c_V_65 : gCS "SelfArranger$Adviser" 65 m_J_bitCount 1 := ⟨(Or.inl ⟨rfl, w_527⟩), (Or.inl w_525), w_526, w_20, ⟨by decide, by decide, by decide +kernel, by decide⟩⟩
theorem c_T_44 : gCV "SelfArranger$Table" 44 m_T_indexHeight 0 := ⟨(Or.inl ⟨rfl, w_357⟩), (Or.inl w_514), w_356, wp_12, ⟨by decide, by decide, by decide +kernel, by decide⟩⟩
theorem g_V_49 : gFg "SelfArranger$Adviser" 49 10 2 := ⟨"SelfArranger$Shape", T_H, 3, rfl, by decide, ws_H, (Or.inr ⟨"SelfArranger", w_184⟩)⟩
theorem c_V_52 : gCV "SelfArranger$Adviser" 52 m_W_least 1 := ⟨(Or.inl ⟨rfl, w_522⟩), (Or.inr ⟨"SelfArranger", w_519⟩), w_521, wp_43, ⟨by decide, by decide, by decide +kernel, by decide⟩⟩
theorem g_V_56 : gFg "SelfArranger$Adviser" 56 6 2 := ⟨"SelfArranger$Ledger", T_D, 3, rfl, by decide, ws_D, (Or.inr ⟨"SelfArranger", w_199⟩)⟩
theorem c_V_59 : gCV "SelfArranger$Adviser" 59 m_T_indexHeight 0 := ⟨(Or.inl ⟨rfl, w_357⟩), (Or.inr ⟨"SelfArranger", w_524⟩), w_356, wp_12, ⟨by decide, by decide, by decide +kernel, by decide⟩⟩
theorem c_W_47 : gCV "SelfArranger$WayCosts" 47 m_W_cheapest 1 := ⟨(Or.inl ⟨rfl, w_374⟩), (Or.inl w_523), w_373, wp_16, ⟨by decide, by decide, by decide +kernel, by decide⟩⟩
theorem c_L_7 : gCV "SelfArrangerLaw" 7 m_A_insert 3 := ⟨(Or.inl ⟨rfl, w_542⟩), (Or.inl w_539), w_540, w_541, ⟨by decide, by decide, by decide +kernel, by decide⟩⟩
theorem c_A_91 : gCS "SelfArranger" 91 m_A_requireValue 1 := ⟨(Or.inl ⟨rfl, w_545⟩), (Or.inl w_543), w_544, w_1, ⟨by decide, by decide, by decide +kernel, by decide⟩⟩
theorem c_A_94 : gCV "SelfArranger" 94 m_T_isFull 0 := ⟨(Or.inl ⟨rfl, w_618⟩), (Or.inr ⟨"SelfArranger", w_615⟩), w_617, wp_45, ⟨by decide, by decide, by decide +kernel, by decide⟩⟩
theorem c_A_105 : gCV "SelfArranger" 105 m_T_add 3 := ⟨(Or.inl ⟨rfl, w_638⟩), (Or.inr ⟨"SelfArranger", w_635⟩), w_637, wp_46, ⟨by decide, by decide, by decide +kernel, by decide⟩⟩
theorem c_A_109 : gCV "SelfArranger" 109 m_A_noteChange 1 := ⟨(Or.inl ⟨rfl, w_646⟩), (Or.inl w_643), w_645, wp_48, ⟨by decide, by decide, by decide +kernel, by decide⟩⟩
theorem p_T_19 : gFp "SelfArranger$Table" 19 1 2 .int false := ⟨"SelfArranger$Table", T_T, 4, ty_T, rfl, by decide, ws_T, (Or.inl w_40), tyok_T, nm_T, rfl, by decide +kernel, fun h => by cases h⟩
theorem c_T_23 : gCV "SelfArranger$Table" 23 m_T_put 3 := ⟨(Or.inl ⟨rfl, w_642⟩), (Or.inl w_639), w_641, wp_47, ⟨by decide, by decide, by decide +kernel, by decide⟩⟩
theorem g_T_15 : gFg "SelfArranger$Table" 15 1 1 := ⟨"SelfArranger$Table", T_T, 4, rfl, by decide, ws_T, (Or.inl w_37)⟩
theorem p_T_27 : gFp "SelfArranger$Table" 27 1 3 .int false := ⟨"SelfArranger$Table", T_T, 4, ty_T, rfl, by decide, ws_T, (Or.inl w_44), tyok_T, nm_T, rfl, by decide +kernel, fun h => by cases h⟩
theorem c_A_289 : gCV "SelfArranger" 289 m_D_noteChange 0 := ⟨(Or.inl ⟨rfl, w_650⟩), (Or.inr ⟨"SelfArranger", w_647⟩), w_649, wp_49, ⟨by decide, by decide, by decide +kernel, by decide⟩⟩
theorem c_A_291 : gCV "SelfArranger" 291 m_B_noteChange 1 := ⟨(Or.inl ⟨rfl, w_654⟩), (Or.inr ⟨"SelfArranger", w_651⟩), w_653, wp_50, ⟨by decide, by decide, by decide +kernel, by decide⟩⟩
theorem c_B_32 : gCV "SelfArranger$Builder" 32 m_B_isBusy 0 := ⟨(Or.inl ⟨rfl, w_658⟩), (Or.inl w_655), w_657, wp_51, ⟨by decide, by decide, by decide +kernel, by decide⟩⟩
theorem g_B_23 : gFg "SelfArranger$Builder" 23 8 3 := ⟨"SelfArranger$Builder", T_B, 5, rfl, by decide, ws_B, (Or.inl w_235)⟩
theorem g_B_26 : gFg "SelfArranger$Builder" 26 8 4 := ⟨"SelfArranger$Builder", T_B, 5, rfl, by decide, ws_B, (Or.inl w_236)⟩
theorem p_B_26 : gFp "SelfArranger$Builder" 26 8 4 .int false := ⟨"SelfArranger$Builder", T_B, 5, ty_B, rfl, by decide, ws_B, (Or.inl w_236), tyok_B, nm_B, rfl, by decide +kernel, fun h => by cases h⟩
theorem g_B_19 : gFg "SelfArranger$Builder" 19 8 2 := ⟨"SelfArranger$Builder", T_B, 5, rfl, by decide, ws_B, (Or.inl w_234)⟩
theorem c_L_17 : gCV "SelfArrangerLaw" 17 m_A_delete 1 := ⟨(Or.inl ⟨rfl, w_666⟩), (Or.inl w_663), w_664, w_665, ⟨by decide, by decide, by decide +kernel, by decide⟩⟩
theorem c_A_112 : gCV "SelfArranger" 112 m_A_requireRow 1 := ⟨(Or.inl ⟨rfl, w_670⟩), (Or.inl w_667), w_669, wp_52, ⟨by decide, by decide, by decide +kernel, by decide⟩⟩
theorem c_A_115 : gCV "SelfArranger" 115 m_T_remove 1 := ⟨(Or.inl ⟨rfl, w_690⟩), (Or.inr ⟨"SelfArranger", w_687⟩), w_689, wp_53, ⟨by decide, by decide, by decide +kernel, by decide⟩⟩
theorem c_L_23 : gCV "SelfArrangerLaw" 23 m_A_change 3 := ⟨(Or.inl ⟨rfl, w_697⟩), (Or.inl w_694), w_695, w_696, ⟨by decide, by decide, by decide +kernel, by decide⟩⟩
theorem c_A_118 : gCS "SelfArranger" 118 m_A_requireColumn 1 := ⟨(Or.inl ⟨rfl, w_700⟩), (Or.inl w_698), w_699, w_1, ⟨by decide, by decide, by decide +kernel, by decide⟩⟩
theorem c_A_121 : gCV "SelfArranger" 121 m_T_put 3 := ⟨(Or.inl ⟨rfl, w_642⟩), (Or.inr ⟨"SelfArranger", w_702⟩), w_641, wp_47, ⟨by decide, by decide, by decide +kernel, by decide⟩⟩
theorem c_L_27 : gCV "SelfArrangerLaw" 27 m_A_value 2 := ⟨(Or.inl ⟨rfl, w_709⟩), (Or.inl w_706), w_707, w_708, ⟨by decide, by decide, by decide +kernel, by decide⟩⟩
theorem c_A_125 : gCV "SelfArranger" 125 m_T_at 2 := ⟨(Or.inl ⟨rfl, w_337⟩), (Or.inr ⟨"SelfArranger", w_710⟩), w_336, wp_7, ⟨by decide, by decide, by decide +kernel, by decide⟩⟩
theorem c_L_31 : gCV "SelfArrangerLaw" 31 m_A_where 4 := ⟨(Or.inl ⟨rfl, w_717⟩), (Or.inl w_714), w_715, w_716, ⟨by decide, by decide, by decide +kernel, by decide⟩⟩
theorem c_A_134 : gCV "SelfArranger" 134 m_C_put 4 := ⟨(Or.inl ⟨rfl, w_477⟩), (Or.inr ⟨"SelfArranger", w_719⟩), w_476, wp_37, ⟨by decide, by decide, by decide +kernel, by decide⟩⟩
theorem c_L_35 : gCV "SelfArrangerLaw" 35 m_A_order 2 := ⟨(Or.inl ⟨rfl, w_726⟩), (Or.inl w_723), w_724, w_725, ⟨by decide, by decide, by decide +kernel, by decide⟩⟩
theorem c_L_39 : gCV "SelfArrangerLaw" 39 m_A_answer 1 := ⟨(Or.inl ⟨rfl, w_734⟩), (Or.inl w_731), w_732, w_733, ⟨by decide, by decide, by decide +kernel, by decide⟩⟩
theorem c_L_43 : gCV "SelfArrangerLaw" 43 m_A_last 1 := ⟨(Or.inl ⟨rfl, w_742⟩), (Or.inl w_739), w_740, w_741, ⟨by decide, by decide, by decide +kernel, by decide⟩⟩
theorem g_A_164 : gFg "SelfArranger" 164 0 13 := ⟨"SelfArranger", T_A, 14, rfl, by decide, ws_A, (Or.inl w_263)⟩
theorem g_A_167 : gFg "SelfArranger" 167 5 3 := ⟨"SelfArranger$Pool", T_P, 5, rfl, by decide, ws_P, (Or.inr ⟨"SelfArranger", w_145⟩)⟩
theorem g_A_170 : gFg "SelfArranger" 170 5 4 := ⟨"SelfArranger$Pool", T_P, 5, rfl, by decide, ws_P, (Or.inr ⟨"SelfArranger", w_147⟩)⟩
theorem c_L_46 : gCV "SelfArrangerLaw" 46 m_A_cost 1 := ⟨(Or.inl ⟨rfl, w_750⟩), (Or.inl w_747), w_748, w_749, ⟨by decide, by decide, by decide +kernel, by decide⟩⟩
theorem c_A_175 : gCS "SelfArranger" 175 m_A_requireIndex 1 := ⟨(Or.inl ⟨rfl, w_753⟩), (Or.inl w_751), w_752, w_1, ⟨by decide, by decide, by decide +kernel, by decide⟩⟩
theorem c_L_49 : gCV "SelfArrangerLaw" 49 m_A_index 2 := ⟨(Or.inl ⟨rfl, w_761⟩), (Or.inl w_758), w_759, w_760, ⟨by decide, by decide, by decide +kernel, by decide⟩⟩
theorem g_A_185 : gFg "SelfArranger" 185 8 1 := ⟨"SelfArranger$Builder", T_B, 5, rfl, by decide, ws_B, (Or.inr ⟨"SelfArranger", w_233⟩)⟩
theorem c_A_192 : gCV "SelfArranger" 192 m_T_indexSize 0 := ⟨(Or.inl ⟨rfl, w_513⟩), (Or.inr ⟨"SelfArranger", w_762⟩), w_512, wp_41, ⟨by decide, by decide, by decide +kernel, by decide⟩⟩
theorem c_A_201 : gCV "SelfArranger" 201 m_T_firstEntry 2 := ⟨(Or.inl ⟨rfl, w_768⟩), (Or.inr ⟨"SelfArranger", w_765⟩), w_767, wp_54, ⟨by decide, by decide, by decide +kernel, by decide⟩⟩
theorem c_T_47 : gCV "SelfArranger$Table" 47 m_T_isAfter 4 := ⟨(Or.inl ⟨rfl, w_436⟩), (Or.inl w_769), w_435, wp_29, ⟨by decide, by decide, by decide +kernel, by decide⟩⟩
theorem c_L_52 : gCV "SelfArrangerLaw" 52 m_A_shape 2 := ⟨(Or.inl ⟨rfl, w_777⟩), (Or.inl w_774), w_775, w_776, ⟨by decide, by decide, by decide +kernel, by decide⟩⟩
theorem g_A_209 : gFg "SelfArranger" 209 6 0 := ⟨"SelfArranger$Ledger", T_D, 3, rfl, by decide, ws_D, (Or.inr ⟨"SelfArranger", w_195⟩)⟩
theorem g_A_213 : gFg "SelfArranger" 213 10 2 := ⟨"SelfArranger$Shape", T_H, 3, rfl, by decide, ws_H, (Or.inr ⟨"SelfArranger", w_185⟩)⟩
theorem g_A_218 : gFg "SelfArranger" 218 10 0 := ⟨"SelfArranger$Shape", T_H, 3, rfl, by decide, ws_H, (Or.inr ⟨"SelfArranger", w_179⟩)⟩
theorem c_A_221 : gCV "SelfArranger" 221 m_C_kindsCode 0 := ⟨(Or.inl ⟨rfl, w_465⟩), (Or.inr ⟨"SelfArranger", w_779⟩), w_464, wp_34, ⟨by decide, by decide, by decide +kernel, by decide⟩⟩
theorem g_A_224 : gFg "SelfArranger" 224 10 1 := ⟨"SelfArranger$Shape", T_H, 3, rfl, by decide, ws_H, (Or.inr ⟨"SelfArranger", w_182⟩)⟩
theorem c_A_228 : gCV "SelfArranger" 228 m_W_least 1 := ⟨(Or.inl ⟨rfl, w_522⟩), (Or.inr ⟨"SelfArranger", w_780⟩), w_521, wp_43, ⟨by decide, by decide, by decide +kernel, by decide⟩⟩
theorem c_L_55 : gCV "SelfArrangerLaw" 55 m_A_budget 1 := ⟨(Or.inl ⟨rfl, w_788⟩), (Or.inl w_785), w_786, w_787, ⟨by decide, by decide, by decide +kernel, by decide⟩⟩
theorem c_L_58 : gCV "SelfArrangerLaw" 58 m_A_costOf 1 := ⟨(Or.inl ⟨rfl, w_796⟩), (Or.inl w_793), w_794, w_795, ⟨by decide, by decide, by decide +kernel, by decide⟩⟩
theorem c_A_248 : gCV "SelfArranger" 248 m_V_setCost 1 := ⟨(Or.inl ⟨rfl, w_518⟩), (Or.inr ⟨"SelfArranger", w_798⟩), w_517, wp_42, ⟨by decide, by decide, by decide +kernel, by decide⟩⟩
theorem c_L_62 : gCV "SelfArrangerLaw" 62 m_A_build 1 := ⟨(Or.inl ⟨rfl, w_806⟩), (Or.inl w_803), w_804, w_805, ⟨by decide, by decide, by decide +kernel, by decide⟩⟩
theorem c_A_252 : gCV "SelfArranger" 252 m_B_isBusy 0 := ⟨(Or.inl ⟨rfl, w_658⟩), (Or.inr ⟨"SelfArranger", w_807⟩), w_657, wp_51, ⟨by decide, by decide, by decide +kernel, by decide⟩⟩
theorem c_A_260 : gCV "SelfArranger" 260 m_B_begin 1 := ⟨(Or.inl ⟨rfl, w_827⟩), (Or.inr ⟨"SelfArranger", w_824⟩), w_826, wp_55, ⟨by decide, by decide, by decide +kernel, by decide⟩⟩
theorem p_B_23 : gFp "SelfArranger$Builder" 23 8 3 .int false := ⟨"SelfArranger$Builder", T_B, 5, ty_B, rfl, by decide, ws_B, (Or.inl w_235), tyok_B, nm_B, rfl, by decide +kernel, fun h => by cases h⟩
theorem c_B_29 : gCV "SelfArranger$Builder" 29 m_B_finishIfDone 0 := ⟨(Or.inl ⟨rfl, w_831⟩), (Or.inl w_828), w_830, wp_56, ⟨by decide, by decide, by decide +kernel, by decide⟩⟩
theorem c_B_47 : gCV "SelfArranger$Builder" 47 m_B_left 0 := ⟨(Or.inl ⟨rfl, w_835⟩), (Or.inl w_832), w_834, wp_57, ⟨by decide, by decide, by decide +kernel, by decide⟩⟩
theorem g_B_15 : gFg "SelfArranger$Builder" 15 8 0 := ⟨"SelfArranger$Builder", T_B, 5, rfl, by decide, ws_B, (Or.inl w_231)⟩
theorem g_B_36 : gFg "SelfArranger$Builder" 36 1 2 := ⟨"SelfArranger$Table", T_T, 4, rfl, by decide, ws_T, (Or.inr ⟨"SelfArranger", w_42⟩)⟩
theorem c_L_67 : gCV "SelfArrangerLaw" 67 m_A_work 1 := ⟨(Or.inl ⟨rfl, w_842⟩), (Or.inl w_839), w_840, w_841, ⟨by decide, by decide, by decide +kernel, by decide⟩⟩
theorem c_A_267 : gCV "SelfArranger" 267 m_B_handle 1 := ⟨(Or.inl ⟨rfl, w_848⟩), (Or.inr ⟨"SelfArranger", w_845⟩), w_847, wp_58, ⟨by decide, by decide, by decide +kernel, by decide⟩⟩
theorem c_L_70 : gCV "SelfArrangerLaw" 70 m_A_drop 1 := ⟨(Or.inl ⟨rfl, w_856⟩), (Or.inl w_853), w_854, w_855, ⟨by decide, by decide, by decide +kernel, by decide⟩⟩
theorem c_A_270 : gCV "SelfArranger" 270 m_B_discard 1 := ⟨(Or.inl ⟨rfl, w_860⟩), (Or.inr ⟨"SelfArranger", w_857⟩), w_859, wp_59, ⟨by decide, by decide, by decide +kernel, by decide⟩⟩
theorem p_M_7 : gFp "SelfArrangerModel" 7 11 2 (.array .boolean) true := ⟨"SelfArrangerModel", T_M, 34, ty_M, rfl, by decide, ws_M, (Or.inl w_869), tyok_M, nm_M, rfl, by decide +kernel, fun _ => ⟨rfl, w_869⟩⟩
theorem p_M_13 : gFp "SelfArrangerModel" 13 11 3 (.array .int) true := ⟨"SelfArrangerModel", T_M, 34, ty_M, rfl, by decide, ws_M, (Or.inl w_870), tyok_M, nm_M, rfl, by decide +kernel, fun _ => ⟨rfl, w_870⟩⟩
theorem p_M_17 : gFp "SelfArrangerModel" 17 11 4 (.array .int) true := ⟨"SelfArrangerModel", T_M, 34, ty_M, rfl, by decide, ws_M, (Or.inl w_871), tyok_M, nm_M, rfl, by decide +kernel, fun _ => ⟨rfl, w_871⟩⟩
theorem p_M_20 : gFp "SelfArrangerModel" 20 11 5 (.array .int) true := ⟨"SelfArrangerModel", T_M, 34, ty_M, rfl, by decide, ws_M, (Or.inl w_872), tyok_M, nm_M, rfl, by decide +kernel, fun _ => ⟨rfl, w_872⟩⟩
theorem p_M_23 : gFp "SelfArrangerModel" 23 11 6 (.array .int) true := ⟨"SelfArrangerModel", T_M, 34, ty_M, rfl, by decide, ws_M, (Or.inl w_873), tyok_M, nm_M, rfl, by decide +kernel, fun _ => ⟨rfl, w_873⟩⟩
theorem p_M_26 : gFp "SelfArrangerModel" 26 11 7 .int false := ⟨"SelfArrangerModel", T_M, 34, ty_M, rfl, by decide, ws_M, (Or.inl w_874), tyok_M, nm_M, rfl, by decide +kernel, fun h => by cases h⟩
theorem p_M_30 : gFp "SelfArrangerModel" 30 11 10 (.array .int) true := ⟨"SelfArrangerModel", T_M, 34, ty_M, rfl, by decide, ws_M, (Or.inl w_877), tyok_M, nm_M, rfl, by decide +kernel, fun _ => ⟨rfl, w_877⟩⟩
theorem p_M_33 : gFp "SelfArrangerModel" 33 11 11 (.array .int) true := ⟨"SelfArrangerModel", T_M, 34, ty_M, rfl, by decide, ws_M, (Or.inl w_878), tyok_M, nm_M, rfl, by decide +kernel, fun _ => ⟨rfl, w_878⟩⟩
theorem p_M_36 : gFp "SelfArrangerModel" 36 11 12 (.array .int) true := ⟨"SelfArrangerModel", T_M, 34, ty_M, rfl, by decide, ws_M, (Or.inl w_879), tyok_M, nm_M, rfl, by decide +kernel, fun _ => ⟨rfl, w_879⟩⟩
theorem p_M_39 : gFp "SelfArrangerModel" 39 11 13 .int false := ⟨"SelfArrangerModel", T_M, 34, ty_M, rfl, by decide, ws_M, (Or.inl w_880), tyok_M, nm_M, rfl, by decide +kernel, fun h => by cases h⟩
theorem p_M_42 : gFp "SelfArrangerModel" 42 11 14 .int false := ⟨"SelfArrangerModel", T_M, 34, ty_M, rfl, by decide, ws_M, (Or.inl w_881), tyok_M, nm_M, rfl, by decide +kernel, fun h => by cases h⟩
theorem p_M_45 : gFp "SelfArrangerModel" 45 11 16 (.array .int) true := ⟨"SelfArrangerModel", T_M, 34, ty_M, rfl, by decide, ws_M, (Or.inl w_883), tyok_M, nm_M, rfl, by decide +kernel, fun _ => ⟨rfl, w_883⟩⟩
theorem p_M_48 : gFp "SelfArrangerModel" 48 11 18 .int false := ⟨"SelfArrangerModel", T_M, 34, ty_M, rfl, by decide, ws_M, (Or.inl w_885), tyok_M, nm_M, rfl, by decide +kernel, fun h => by cases h⟩
theorem p_M_51 : gFp "SelfArrangerModel" 51 11 20 (.array .int) true := ⟨"SelfArrangerModel", T_M, 34, ty_M, rfl, by decide, ws_M, (Or.inl w_887), tyok_M, nm_M, rfl, by decide +kernel, fun _ => ⟨rfl, w_887⟩⟩
theorem p_M_54 : gFp "SelfArrangerModel" 54 11 21 (.array .boolean) true := ⟨"SelfArrangerModel", T_M, 34, ty_M, rfl, by decide, ws_M, (Or.inl w_888), tyok_M, nm_M, rfl, by decide +kernel, fun _ => ⟨rfl, w_888⟩⟩
theorem p_M_57 : gFp "SelfArrangerModel" 57 11 23 (.array .int) true := ⟨"SelfArrangerModel", T_M, 34, ty_M, rfl, by decide, ws_M, (Or.inl w_890), tyok_M, nm_M, rfl, by decide +kernel, fun _ => ⟨rfl, w_890⟩⟩
theorem p_M_60 : gFp "SelfArrangerModel" 60 11 25 .int false := ⟨"SelfArrangerModel", T_M, 34, ty_M, rfl, by decide, ws_M, (Or.inl w_892), tyok_M, nm_M, rfl, by decide +kernel, fun h => by cases h⟩
theorem p_M_63 : gFp "SelfArrangerModel" 63 11 29 (.array .int) true := ⟨"SelfArrangerModel", T_M, 34, ty_M, rfl, by decide, ws_M, (Or.inl w_896), tyok_M, nm_M, rfl, by decide +kernel, fun _ => ⟨rfl, w_896⟩⟩
theorem p_M_66 : gFp "SelfArrangerModel" 66 11 33 (.array .int) true := ⟨"SelfArrangerModel", T_M, 34, ty_M, rfl, by decide, ws_M, (Or.inl w_900), tyok_M, nm_M, rfl, by decide +kernel, fun _ => ⟨rfl, w_900⟩⟩
theorem p_M_69 : gFp "SelfArrangerModel" 69 11 19 .int true := ⟨"SelfArrangerModel", T_M, 34, ty_M, rfl, by decide, ws_M, (Or.inl w_886), tyok_M, nm_M, rfl, by decide +kernel, fun _ => ⟨rfl, w_886⟩⟩
theorem g_M_51 : gFg "SelfArrangerModel" 51 11 20 := ⟨"SelfArrangerModel", T_M, 34, rfl, by decide, ws_M, (Or.inl w_887)⟩
theorem g_M_72 : gFg "SelfArrangerModel" 72 11 0 := ⟨"SelfArrangerModel", T_M, 34, rfl, by decide, ws_M, (Or.inl w_867)⟩
theorem c_M_87 : gCS "SelfArrangerModel" 87 m_M_isValue 1 := ⟨(Or.inl ⟨rfl, w_980⟩), (Or.inl w_978), w_979, w_13, ⟨by decide, by decide, by decide +kernel, by decide⟩⟩
theorem g_M_75 : gFg "SelfArrangerModel" 75 11 1 := ⟨"SelfArrangerModel", T_M, 34, rfl, by decide, ws_M, (Or.inl w_868)⟩
theorem p_M_72 : gFp "SelfArrangerModel" 72 11 0 .int false := ⟨"SelfArrangerModel", T_M, 34, ty_M, rfl, by decide, ws_M, (Or.inl w_867), tyok_M, nm_M, rfl, by decide +kernel, fun h => by cases h⟩
theorem g_M_13 : gFg "SelfArrangerModel" 13 11 3 := ⟨"SelfArrangerModel", T_M, 34, rfl, by decide, ws_M, (Or.inl w_870)⟩
theorem g_M_7 : gFg "SelfArrangerModel" 7 11 2 := ⟨"SelfArrangerModel", T_M, 34, rfl, by decide, ws_M, (Or.inl w_869)⟩
theorem p_M_75 : gFp "SelfArrangerModel" 75 11 1 .int false := ⟨"SelfArrangerModel", T_M, 34, ty_M, rfl, by decide, ws_M, (Or.inl w_868), tyok_M, nm_M, rfl, by decide +kernel, fun h => by cases h⟩
theorem c_M_91 : gCV "SelfArrangerModel" 91 m_M_note 1 := ⟨(Or.inl ⟨rfl, w_984⟩), (Or.inl w_981), w_983, wp_60, ⟨by decide, by decide, by decide +kernel, by decide⟩⟩
theorem g_M_78 : gFg "SelfArrangerModel" 78 11 17 := ⟨"SelfArrangerModel", T_M, 34, rfl, by decide, ws_M, (Or.inl w_884)⟩
theorem p_M_78 : gFp "SelfArrangerModel" 78 11 17 .int false := ⟨"SelfArrangerModel", T_M, 34, ty_M, rfl, by decide, ws_M, (Or.inl w_884), tyok_M, nm_M, rfl, by decide +kernel, fun h => by cases h⟩
theorem g_M_26 : gFg "SelfArrangerModel" 26 11 7 := ⟨"SelfArrangerModel", T_M, 34, rfl, by decide, ws_M, (Or.inl w_874)⟩
theorem g_M_81 : gFg "SelfArrangerModel" 81 11 8 := ⟨"SelfArrangerModel", T_M, 34, rfl, by decide, ws_M, (Or.inl w_875)⟩
theorem g_M_84 : gFg "SelfArrangerModel" 84 11 9 := ⟨"SelfArrangerModel", T_M, 34, rfl, by decide, ws_M, (Or.inl w_876)⟩
theorem p_M_84 : gFp "SelfArrangerModel" 84 11 9 .int false := ⟨"SelfArrangerModel", T_M, 34, ty_M, rfl, by decide, ws_M, (Or.inl w_876), tyok_M, nm_M, rfl, by decide +kernel, fun h => by cases h⟩
theorem c_M_95 : gCV "SelfArrangerModel" 95 m_M_isRow 1 := ⟨(Or.inl ⟨rfl, w_992⟩), (Or.inl w_989), w_991, wp_61, ⟨by decide, by decide, by decide +kernel, by decide⟩⟩
theorem c_M_98 : gCS "SelfArrangerModel" 98 m_M_isColumn 1 := ⟨(Or.inl ⟨rfl, w_999⟩), (Or.inl w_997), w_998, w_13, ⟨by decide, by decide, by decide +kernel, by decide⟩⟩
theorem c_M_123 : gCS "SelfArrangerModel" 123 m_M_isIndex 1 := ⟨(Or.inl ⟨rfl, w_1010⟩), (Or.inl w_1008), w_1009, w_13, ⟨by decide, by decide, by decide +kernel, by decide⟩⟩
theorem g_M_23 : gFg "SelfArrangerModel" 23 11 6 := ⟨"SelfArrangerModel", T_M, 34, rfl, by decide, ws_M, (Or.inl w_873)⟩
theorem c_M_126 : gCV "SelfArrangerModel" 126 m_M_height 0 := ⟨(Or.inl ⟨rfl, w_1014⟩), (Or.inl w_1011), w_1013, wp_62, ⟨by decide, by decide, by decide +kernel, by decide⟩⟩
theorem c_M_129 : gCV "SelfArrangerModel" 129 m_M_sizeOfIndex 0 := ⟨(Or.inl ⟨rfl, w_1029⟩), (Or.inl w_1026), w_1028, wp_65, ⟨by decide, by decide, by decide +kernel, by decide⟩⟩
theorem g_M_17 : gFg "SelfArrangerModel" 17 11 4 := ⟨"SelfArrangerModel", T_M, 34, rfl, by decide, ws_M, (Or.inl w_871)⟩
theorem g_M_20 : gFg "SelfArrangerModel" 20 11 5 := ⟨"SelfArrangerModel", T_M, 34, rfl, by decide, ws_M, (Or.inl w_872)⟩
theorem c_M_132 : gCV "SelfArrangerModel" 132 m_M_sort 2 := ⟨(Or.inl ⟨rfl, w_1033⟩), (Or.inl w_1030), w_1032, wp_66, ⟨by decide, by decide, by decide +kernel, by decide⟩⟩
theorem g_M_105 : gFg "SelfArrangerModel" 105 11 30 := ⟨"SelfArrangerModel", T_M, 34, rfl, by decide, ws_M, (Or.inl w_897)⟩
theorem g_M_63 : gFg "SelfArrangerModel" 63 11 29 := ⟨"SelfArrangerModel", T_M, 34, rfl, by decide, ws_M, (Or.inl w_896)⟩
theorem c_M_120 : gCV "SelfArrangerModel" 120 m_M_leaves 0 := ⟨(Or.inl ⟨rfl, w_1018⟩), (Or.inl w_1015), w_1017, wp_63, ⟨by decide, by decide, by decide +kernel, by decide⟩⟩
theorem c_M_116 : gCS "SelfArrangerModel" 116 m_M_byFour 1 := ⟨(Or.inl ⟨rfl, w_1025⟩), (Or.inl w_1023), w_1024, w_13, ⟨by decide, by decide, by decide +kernel, by decide⟩⟩
theorem c_M_112 : gCV "SelfArrangerModel" 112 m_M_live 0 := ⟨(Or.inl ⟨rfl, w_1022⟩), (Or.inl w_1019), w_1021, wp_64, ⟨by decide, by decide, by decide +kernel, by decide⟩⟩
theorem p_M_105 : gFp "SelfArrangerModel" 105 11 30 .int false := ⟨"SelfArrangerModel", T_M, 34, ty_M, rfl, by decide, ws_M, (Or.inl w_897), tyok_M, nm_M, rfl, by decide +kernel, fun h => by cases h⟩
theorem c_M_108 : gCV "SelfArrangerModel" 108 m_M_isBefore 4 := ⟨(Or.inl ⟨rfl, w_1037⟩), (Or.inl w_1034), w_1036, wp_67, ⟨by decide, by decide, by decide +kernel, by decide⟩⟩
theorem c_M_101 : gCV "SelfArrangerModel" 101 m_M_of 2 := ⟨(Or.inl ⟨rfl, w_1041⟩), (Or.inl w_1038), w_1040, wp_68, ⟨by decide, by decide, by decide +kernel, by decide⟩⟩
theorem c_M_162 : gCV "SelfArrangerModel" 162 m_M_heapPages 0 := ⟨(Or.inl ⟨rfl, w_1049⟩), (Or.inl w_1046), w_1048, wp_69, ⟨by decide, by decide, by decide +kernel, by decide⟩⟩
theorem c_M_165 : gCV "SelfArrangerModel" 165 m_M_isWay 2 := ⟨(Or.inl ⟨rfl, w_1053⟩), (Or.inl w_1050), w_1052, wp_70, ⟨by decide, by decide, by decide +kernel, by decide⟩⟩
theorem c_M_168 : gCV "SelfArrangerModel" 168 m_M_costBy 2 := ⟨(Or.inl ⟨rfl, w_1057⟩), (Or.inl w_1054), w_1056, wp_71, ⟨by decide, by decide, by decide +kernel, by decide⟩⟩
theorem g_M_30 : gFg "SelfArrangerModel" 30 11 10 := ⟨"SelfArrangerModel", T_M, 34, rfl, by decide, ws_M, (Or.inl w_877)⟩
theorem c_M_156 : gCV "SelfArrangerModel" 156 m_M_stretch 2 := ⟨(Or.inl ⟨rfl, w_1061⟩), (Or.inl w_1058), w_1060, wp_72, ⟨by decide, by decide, by decide +kernel, by decide⟩⟩
theorem c_M_159 : gCV "SelfArrangerModel" 159 m_M_leavesTouched 0 := ⟨(Or.inl ⟨rfl, w_1081⟩), (Or.inl w_1078), w_1080, wp_77, ⟨by decide, by decide, by decide +kernel, by decide⟩⟩
theorem g_M_150 : gFg "SelfArrangerModel" 150 11 32 := ⟨"SelfArrangerModel", T_M, 34, rfl, by decide, ws_M, (Or.inl w_899)⟩
theorem g_M_144 : gFg "SelfArrangerModel" 144 11 31 := ⟨"SelfArrangerModel", T_M, 34, rfl, by decide, ws_M, (Or.inl w_898)⟩
theorem p_M_144 : gFp "SelfArrangerModel" 144 11 31 .int false := ⟨"SelfArrangerModel", T_M, 34, ty_M, rfl, by decide, ws_M, (Or.inl w_898), tyok_M, nm_M, rfl, by decide +kernel, fun h => by cases h⟩
theorem c_M_147 : gCV "SelfArrangerModel" 147 m_M_isAhead 3 := ⟨(Or.inl ⟨rfl, w_1065⟩), (Or.inl w_1062), w_1064, wp_73, ⟨by decide, by decide, by decide +kernel, by decide⟩⟩
theorem p_M_150 : gFp "SelfArrangerModel" 150 11 32 .int false := ⟨"SelfArrangerModel", T_M, 34, ty_M, rfl, by decide, ws_M, (Or.inl w_899), tyok_M, nm_M, rfl, by decide +kernel, fun h => by cases h⟩
theorem c_M_153 : gCV "SelfArrangerModel" 153 m_M_isIn 3 := ⟨(Or.inl ⟨rfl, w_1073⟩), (Or.inl w_1070), w_1072, wp_75, ⟨by decide, by decide, by decide +kernel, by decide⟩⟩
theorem g_M_33 : gFg "SelfArrangerModel" 33 11 11 := ⟨"SelfArrangerModel", T_M, 34, rfl, by decide, ws_M, (Or.inl w_878)⟩
theorem c_M_136 : gCV "SelfArrangerModel" 136 m_M_countsSecond 2 := ⟨(Or.inl ⟨rfl, w_1069⟩), (Or.inl w_1066), w_1068, wp_74, ⟨by decide, by decide, by decide +kernel, by decide⟩⟩
theorem c_M_140 : gCV "SelfArrangerModel" 140 m_M_fits 3 := ⟨(Or.inl ⟨rfl, w_1077⟩), (Or.inl w_1074), w_1076, wp_76, ⟨by decide, by decide, by decide +kernel, by decide⟩⟩
theorem g_M_36 : gFg "SelfArrangerModel" 36 11 12 := ⟨"SelfArrangerModel", T_M, 34, rfl, by decide, ws_M, (Or.inl w_879)⟩
theorem c_M_196 : gCV "SelfArrangerModel" 196 m_M_wayOf 2 := ⟨(Or.inl ⟨rfl, w_1097⟩), (Or.inl w_1094), w_1096, wp_78, ⟨by decide, by decide, by decide +kernel, by decide⟩⟩
theorem g_M_60 : gFg "SelfArrangerModel" 60 11 25 := ⟨"SelfArrangerModel", T_M, 34, rfl, by decide, ws_M, (Or.inl w_892)⟩
theorem c_M_199 : gCV "SelfArrangerModel" 199 m_M_costOfWay 2 := ⟨(Or.inl ⟨rfl, w_1101⟩), (Or.inl w_1098), w_1100, wp_79, ⟨by decide, by decide, by decide +kernel, by decide⟩⟩
theorem p_M_202 : gFp "SelfArrangerModel" 202 11 26 .int false := ⟨"SelfArrangerModel", T_M, 34, ty_M, rfl, by decide, ws_M, (Or.inl w_893), tyok_M, nm_M, rfl, by decide +kernel, fun h => by cases h⟩
theorem p_M_171 : gFp "SelfArrangerModel" 171 11 27 .int false := ⟨"SelfArrangerModel", T_M, 34, ty_M, rfl, by decide, ws_M, (Or.inl w_894), tyok_M, nm_M, rfl, by decide +kernel, fun h => by cases h⟩
theorem p_M_174 : gFp "SelfArrangerModel" 174 11 28 .int false := ⟨"SelfArrangerModel", T_M, 34, ty_M, rfl, by decide, ws_M, (Or.inl w_895), tyok_M, nm_M, rfl, by decide +kernel, fun h => by cases h⟩
theorem c_M_183 : gCV "SelfArrangerModel" 183 m_M_touch 3 := ⟨(Or.inl ⟨rfl, w_1105⟩), (Or.inl w_1102), w_1104, wp_80, ⟨by decide, by decide, by decide +kernel, by decide⟩⟩
theorem c_M_205 : gCV "SelfArrangerModel" 205 m_M_touchIndex 1 := ⟨(Or.inl ⟨rfl, w_1109⟩), (Or.inl w_1106), w_1108, wp_81, ⟨by decide, by decide, by decide +kernel, by decide⟩⟩
theorem g_M_39 : gFg "SelfArrangerModel" 39 11 13 := ⟨"SelfArrangerModel", T_M, 34, rfl, by decide, ws_M, (Or.inl w_880)⟩
theorem p_M_208 : gFp "SelfArrangerModel" 208 11 24 .int false := ⟨"SelfArrangerModel", T_M, 34, ty_M, rfl, by decide, ws_M, (Or.inl w_891), tyok_M, nm_M, rfl, by decide +kernel, fun h => by cases h⟩
theorem g_M_208 : gFg "SelfArrangerModel" 208 11 24 := ⟨"SelfArrangerModel", T_M, 34, rfl, by decide, ws_M, (Or.inl w_891)⟩
theorem g_M_42 : gFg "SelfArrangerModel" 42 11 14 := ⟨"SelfArrangerModel", T_M, 34, rfl, by decide, ws_M, (Or.inl w_881)⟩
theorem g_M_57 : gFg "SelfArrangerModel" 57 11 23 := ⟨"SelfArrangerModel", T_M, 34, rfl, by decide, ws_M, (Or.inl w_890)⟩
theorem c_M_211 : gCV "SelfArrangerModel" 211 m_M_remember 0 := ⟨(Or.inl ⟨rfl, w_1117⟩), (Or.inl w_1114), w_1116, wp_83, ⟨by decide, by decide, by decide +kernel, by decide⟩⟩
theorem g_M_171 : gFg "SelfArrangerModel" 171 11 27 := ⟨"SelfArrangerModel", T_M, 34, rfl, by decide, ws_M, (Or.inl w_894)⟩
theorem g_M_69 : gFg "SelfArrangerModel" 69 11 19 := ⟨"SelfArrangerModel", T_M, 34, rfl, by decide, ws_M, (Or.inl w_886)⟩
theorem g_M_54 : gFg "SelfArrangerModel" 54 11 21 := ⟨"SelfArrangerModel", T_M, 34, rfl, by decide, ws_M, (Or.inl w_888)⟩
theorem g_M_174 : gFg "SelfArrangerModel" 174 11 28 := ⟨"SelfArrangerModel", T_M, 34, rfl, by decide, ws_M, (Or.inl w_895)⟩
theorem g_M_177 : gFg "SelfArrangerModel" 177 11 22 := ⟨"SelfArrangerModel", T_M, 34, rfl, by decide, ws_M, (Or.inl w_889)⟩
theorem p_M_177 : gFp "SelfArrangerModel" 177 11 22 .int false := ⟨"SelfArrangerModel", T_M, 34, ty_M, rfl, by decide, ws_M, (Or.inl w_889), tyok_M, nm_M, rfl, by decide +kernel, fun h => by cases h⟩
theorem c_M_180 : gCV "SelfArrangerModel" 180 m_M_firstLeaf 0 := ⟨(Or.inl ⟨rfl, w_1113⟩), (Or.inl w_1110), w_1112, wp_82, ⟨by decide, by decide, by decide +kernel, by decide⟩⟩
theorem c_M_190 : gCV "SelfArrangerModel" 190 m_M_findShape 0 := ⟨(Or.inl ⟨rfl, w_1121⟩), (Or.inl w_1118), w_1120, wp_84, ⟨by decide, by decide, by decide +kernel, by decide⟩⟩
theorem g_M_187 : gFg "SelfArrangerModel" 187 11 15 := ⟨"SelfArrangerModel", T_M, 34, rfl, by decide, ws_M, (Or.inl w_882)⟩
theorem p_M_187 : gFp "SelfArrangerModel" 187 11 15 .int false := ⟨"SelfArrangerModel", T_M, 34, ty_M, rfl, by decide, ws_M, (Or.inl w_882), tyok_M, nm_M, rfl, by decide +kernel, fun h => by cases h⟩
theorem g_M_45 : gFg "SelfArrangerModel" 45 11 16 := ⟨"SelfArrangerModel", T_M, 34, rfl, by decide, ws_M, (Or.inl w_883)⟩
theorem c_M_193 : gCV "SelfArrangerModel" 193 m_M_copyShape 2 := ⟨(Or.inl ⟨rfl, w_1125⟩), (Or.inl w_1122), w_1124, wp_85, ⟨by decide, by decide, by decide +kernel, by decide⟩⟩
theorem g_M_202 : gFg "SelfArrangerModel" 202 11 26 := ⟨"SelfArrangerModel", T_M, 34, rfl, by decide, ws_M, (Or.inl w_893)⟩
theorem g_M_48 : gFg "SelfArrangerModel" 48 11 18 := ⟨"SelfArrangerModel", T_M, 34, rfl, by decide, ws_M, (Or.inl w_885)⟩
theorem c_M_217 : gCV "SelfArrangerModel" 217 m_M_findCosts 0 := ⟨(Or.inl ⟨rfl, w_1161⟩), (Or.inl w_1158), w_1160, wp_86, ⟨by decide, by decide, by decide +kernel, by decide⟩⟩
theorem c_M_220 : gCV "SelfArrangerModel" 220 m_M_sumOf 1 := ⟨(Or.inl ⟨rfl, w_1165⟩), (Or.inl w_1162), w_1164, wp_87, ⟨by decide, by decide, by decide +kernel, by decide⟩⟩
theorem c_M_214 : gCS "SelfArrangerModel" 214 m_M_members 1 := ⟨(Or.inl ⟨rfl, w_1168⟩), (Or.inl w_1166), w_1167, w_13, ⟨by decide, by decide, by decide +kernel, by decide⟩⟩
theorem g_M_66 : gFg "SelfArrangerModel" 66 11 33 := ⟨"SelfArrangerModel", T_M, 34, rfl, by decide, ws_M, (Or.inl w_900)⟩
theorem p_M_81 : gFp "SelfArrangerModel" 81 11 8 .int false := ⟨"SelfArrangerModel", T_M, 34, ty_M, rfl, by decide, ws_M, (Or.inl w_875), tyok_M, nm_M, rfl, by decide +kernel, fun h => by cases h⟩
theorem c_M_224 : gCV "SelfArrangerModel" 224 m_M_settle 0 := ⟨(Or.inl ⟨rfl, w_1180⟩), (Or.inl w_1177), w_1179, wp_88, ⟨by decide, by decide, by decide +kernel, by decide⟩⟩
theorem c_M_227 : gCV "SelfArrangerModel" 227 m_M_leftToDo 0 := ⟨(Or.inl ⟨rfl, w_1184⟩), (Or.inl w_1181), w_1183, wp_89, ⟨by decide, by decide, by decide +kernel, by decide⟩⟩
theorem c_L_74 : gCS "SelfArrangerLaw" 74 m_L_cell 2 := ⟨(Or.inl ⟨rfl, w_533⟩), (Or.inl w_531), w_532, w_0, ⟨by decide, by decide, by decide +kernel, by decide⟩⟩
theorem c_L_80 : gCI "SelfArrangerLaw" 80 m_A_init 1 := ⟨(Or.inl ⟨rfl, w_26⟩), rfl, rfl, w_26, (Or.inl w_24), w_25, rfl, ⟨by decide, by decide, by decide +kernel, by decide⟩⟩
theorem c_L_84 : gCI "SelfArrangerLaw" 84 m_M_init 1 := ⟨(Or.inl ⟨rfl, w_865⟩), rfl, rfl, w_865, (Or.inl w_863), w_864, rfl, ⟨by decide, by decide, by decide +kernel, by decide⟩⟩
theorem c_L_85 : gCS "SelfArrangerLaw" 85 m_L_insert 5 := ⟨(Or.inr ⟨_, rfl, w_536⟩), (Or.inl w_534), w_535, w_0, ⟨by decide, by decide, by decide +kernel, by decide⟩⟩
theorem c_L_88 : gCV "SelfArrangerLaw" 88 m_M_insert 3 := ⟨(Or.inl ⟨rfl, w_977⟩), (Or.inl w_974), w_975, w_976, ⟨by decide, by decide, by decide +kernel, by decide⟩⟩
theorem c_L_89 : gCV "SelfArrangerLaw" 89 m_M_thrown 0 := ⟨(Or.inl ⟨rfl, w_973⟩), (Or.inl w_970), w_971, w_972, ⟨by decide, by decide, by decide +kernel, by decide⟩⟩
theorem c_L_93 : gCS "SelfArrangerLaw" 93 m_L_delete 2 := ⟨(Or.inr ⟨_, rfl, w_661⟩), (Or.inl w_659), w_660, w_0, ⟨by decide, by decide, by decide +kernel, by decide⟩⟩
theorem c_L_96 : gCV "SelfArrangerLaw" 96 m_M_delete 1 := ⟨(Or.inl ⟨rfl, w_988⟩), (Or.inl w_985), w_986, w_987, ⟨by decide, by decide, by decide +kernel, by decide⟩⟩
theorem c_L_97 : gCS "SelfArrangerLaw" 97 m_L_change 4 := ⟨(Or.inr ⟨_, rfl, w_693⟩), (Or.inl w_691), w_692, w_0, ⟨by decide, by decide, by decide +kernel, by decide⟩⟩
theorem c_L_100 : gCV "SelfArrangerLaw" 100 m_M_change 3 := ⟨(Or.inl ⟨rfl, w_996⟩), (Or.inl w_993), w_994, w_995, ⟨by decide, by decide, by decide +kernel, by decide⟩⟩
theorem c_L_101 : gCS "SelfArrangerLaw" 101 m_L_value 4 := ⟨(Or.inr ⟨_, rfl, w_705⟩), (Or.inl w_703), w_704, w_0, ⟨by decide, by decide, by decide +kernel, by decide⟩⟩
theorem c_L_104 : gCV "SelfArrangerLaw" 104 m_M_value 2 := ⟨(Or.inl ⟨rfl, w_1003⟩), (Or.inl w_1000), w_1001, w_1002, ⟨by decide, by decide, by decide +kernel, by decide⟩⟩
theorem c_L_105 : gCS "SelfArrangerLaw" 105 m_L_where 5 := ⟨(Or.inr ⟨_, rfl, w_713⟩), (Or.inl w_711), w_712, w_0, ⟨by decide, by decide, by decide +kernel, by decide⟩⟩
theorem c_L_108 : gCV "SelfArrangerLaw" 108 m_M_where 4 := ⟨(Or.inl ⟨rfl, w_1085⟩), (Or.inl w_1082), w_1083, w_1084, ⟨by decide, by decide, by decide +kernel, by decide⟩⟩
theorem c_L_109 : gCS "SelfArrangerLaw" 109 m_L_order 3 := ⟨(Or.inr ⟨_, rfl, w_722⟩), (Or.inl w_720), w_721, w_0, ⟨by decide, by decide, by decide +kernel, by decide⟩⟩
theorem c_L_112 : gCV "SelfArrangerLaw" 112 m_M_order 2 := ⟨(Or.inl ⟨rfl, w_1089⟩), (Or.inl w_1086), w_1087, w_1088, ⟨by decide, by decide, by decide +kernel, by decide⟩⟩
theorem c_L_113 : gCV "SelfArrangerLaw" 113 m_A_ask 0 := ⟨(Or.inl ⟨rfl, w_296⟩), (Or.inl w_293), w_294, w_295, ⟨by decide, by decide, by decide +kernel, by decide⟩⟩
theorem c_L_116 : gCV "SelfArrangerLaw" 116 m_M_ask 0 := ⟨(Or.inl ⟨rfl, w_1093⟩), (Or.inl w_1090), w_1091, w_1092, ⟨by decide, by decide, by decide +kernel, by decide⟩⟩
theorem c_L_117 : gCS "SelfArrangerLaw" 117 m_L_answer 3 := ⟨(Or.inr ⟨_, rfl, w_730⟩), (Or.inl w_728), w_729, w_0, ⟨by decide, by decide, by decide +kernel, by decide⟩⟩
theorem c_L_120 : gCV "SelfArrangerLaw" 120 m_M_answer 1 := ⟨(Or.inl ⟨rfl, w_1129⟩), (Or.inl w_1126), w_1127, w_1128, ⟨by decide, by decide, by decide +kernel, by decide⟩⟩
theorem c_L_121 : gCS "SelfArrangerLaw" 121 m_L_last 3 := ⟨(Or.inr ⟨_, rfl, w_738⟩), (Or.inl w_736), w_737, w_0, ⟨by decide, by decide, by decide +kernel, by decide⟩⟩
theorem c_L_123 : gCV "SelfArrangerLaw" 123 m_M_last 1 := ⟨(Or.inl ⟨rfl, w_1133⟩), (Or.inl w_1130), w_1131, w_1132, ⟨by decide, by decide, by decide +kernel, by decide⟩⟩
theorem c_L_124 : gCS "SelfArrangerLaw" 124 m_L_cost 3 := ⟨(Or.inr ⟨_, rfl, w_746⟩), (Or.inl w_744), w_745, w_0, ⟨by decide, by decide, by decide +kernel, by decide⟩⟩
theorem c_L_126 : gCV "SelfArrangerLaw" 126 m_M_cost 1 := ⟨(Or.inl ⟨rfl, w_1045⟩), (Or.inl w_1042), w_1043, w_1044, ⟨by decide, by decide, by decide +kernel, by decide⟩⟩
theorem c_L_127 : gCS "SelfArrangerLaw" 127 m_L_index 4 := ⟨(Or.inr ⟨_, rfl, w_757⟩), (Or.inl w_755), w_756, w_0, ⟨by decide, by decide, by decide +kernel, by decide⟩⟩
theorem c_L_129 : gCV "SelfArrangerLaw" 129 m_M_index 2 := ⟨(Or.inl ⟨rfl, w_1007⟩), (Or.inl w_1004), w_1005, w_1006, ⟨by decide, by decide, by decide +kernel, by decide⟩⟩
theorem c_L_130 : gCV "SelfArrangerLaw" 130 m_A_shapes 0 := ⟨(Or.inl ⟨rfl, w_481⟩), (Or.inl w_478), w_479, w_480, ⟨by decide, by decide, by decide +kernel, by decide⟩⟩
theorem c_L_133 : gCV "SelfArrangerLaw" 133 m_M_shapes 0 := ⟨(Or.inl ⟨rfl, w_1137⟩), (Or.inl w_1134), w_1135, w_1136, ⟨by decide, by decide, by decide +kernel, by decide⟩⟩
theorem c_L_134 : gCS "SelfArrangerLaw" 134 m_L_shape 4 := ⟨(Or.inr ⟨_, rfl, w_773⟩), (Or.inl w_771), w_772, w_0, ⟨by decide, by decide, by decide +kernel, by decide⟩⟩
theorem c_L_136 : gCV "SelfArrangerLaw" 136 m_M_shape 2 := ⟨(Or.inl ⟨rfl, w_1141⟩), (Or.inl w_1138), w_1139, w_1140, ⟨by decide, by decide, by decide +kernel, by decide⟩⟩
theorem c_L_137 : gCV "SelfArrangerLaw" 137 m_A_changes 0 := ⟨(Or.inl ⟨rfl, w_485⟩), (Or.inl w_482), w_483, w_484, ⟨by decide, by decide, by decide +kernel, by decide⟩⟩
theorem c_L_140 : gCV "SelfArrangerLaw" 140 m_M_changes 0 := ⟨(Or.inl ⟨rfl, w_1145⟩), (Or.inl w_1142), w_1143, w_1144, ⟨by decide, by decide, by decide +kernel, by decide⟩⟩
theorem c_L_141 : gCV "SelfArrangerLaw" 141 m_A_period 0 := ⟨(Or.inl ⟨rfl, w_489⟩), (Or.inl w_486), w_487, w_488, ⟨by decide, by decide, by decide +kernel, by decide⟩⟩
theorem c_L_144 : gCV "SelfArrangerLaw" 144 m_M_period 0 := ⟨(Or.inl ⟨rfl, w_1149⟩), (Or.inl w_1146), w_1147, w_1148, ⟨by decide, by decide, by decide +kernel, by decide⟩⟩
theorem c_L_145 : gCS "SelfArrangerLaw" 145 m_L_budget 2 := ⟨(Or.inr ⟨_, rfl, w_784⟩), (Or.inl w_782), w_783, w_0, ⟨by decide, by decide, by decide +kernel, by decide⟩⟩
theorem c_L_147 : gCV "SelfArrangerLaw" 147 m_M_budget 1 := ⟨(Or.inl ⟨rfl, w_1153⟩), (Or.inl w_1150), w_1151, w_1152, ⟨by decide, by decide, by decide +kernel, by decide⟩⟩
theorem c_L_148 : gCV "SelfArrangerLaw" 148 m_A_choose 0 := ⟨(Or.inl ⟨rfl, w_500⟩), (Or.inl w_497), w_498, w_499, ⟨by decide, by decide, by decide +kernel, by decide⟩⟩
theorem c_L_151 : gCV "SelfArrangerLaw" 151 m_M_choose 0 := ⟨(Or.inl ⟨rfl, w_1157⟩), (Or.inl w_1154), w_1155, w_1156, ⟨by decide, by decide, by decide +kernel, by decide⟩⟩
theorem c_L_152 : gCS "SelfArrangerLaw" 152 m_L_costOf 3 := ⟨(Or.inr ⟨_, rfl, w_792⟩), (Or.inl w_790), w_791, w_0, ⟨by decide, by decide, by decide +kernel, by decide⟩⟩
theorem c_L_154 : gCV "SelfArrangerLaw" 154 m_M_costOf 1 := ⟨(Or.inl ⟨rfl, w_1172⟩), (Or.inl w_1169), w_1170, w_1171, ⟨by decide, by decide, by decide +kernel, by decide⟩⟩
theorem c_L_155 : gCS "SelfArrangerLaw" 155 m_L_build 2 := ⟨(Or.inr ⟨_, rfl, w_801⟩), (Or.inl w_799), w_800, w_0, ⟨by decide, by decide, by decide +kernel, by decide⟩⟩
theorem c_L_157 : gCV "SelfArrangerLaw" 157 m_M_build 1 := ⟨(Or.inl ⟨rfl, w_1176⟩), (Or.inl w_1173), w_1174, w_1175, ⟨by decide, by decide, by decide +kernel, by decide⟩⟩
theorem c_L_158 : gCS "SelfArrangerLaw" 158 m_L_work 3 := ⟨(Or.inr ⟨_, rfl, w_838⟩), (Or.inl w_836), w_837, w_0, ⟨by decide, by decide, by decide +kernel, by decide⟩⟩
theorem c_L_160 : gCV "SelfArrangerLaw" 160 m_M_work 1 := ⟨(Or.inl ⟨rfl, w_1188⟩), (Or.inl w_1185), w_1186, w_1187, ⟨by decide, by decide, by decide +kernel, by decide⟩⟩
theorem c_L_161 : gCS "SelfArrangerLaw" 161 m_L_drop 3 := ⟨(Or.inr ⟨_, rfl, w_852⟩), (Or.inl w_850), w_851, w_0, ⟨by decide, by decide, by decide +kernel, by decide⟩⟩
theorem c_L_163 : gCV "SelfArrangerLaw" 163 m_M_drop 1 := ⟨(Or.inl ⟨rfl, w_1192⟩), (Or.inl w_1189), w_1190, w_1191, ⟨by decide, by decide, by decide +kernel, by decide⟩⟩
end
section
/-! Ends of a kind; calls that come back; statics, the script; Math -/
def pV {σ : Type} (P : σ → Prop) : gO → σ → Prop := fun r w => r = .inl none ∧ P w
def pI {σ : Type} (P : Int32 → σ → Prop) : gO → σ → Prop := fun r w => ∃ x, r = .inl (some (.int x)) ∧ P x w
def pJ {σ : Type} (P : Int64 → σ → Prop) : gO → σ → Prop := fun r w => ∃ x, r = .inl (some (.long x)) ∧ P x w
-- an int, or an exception of the kind k
def pIT {σ : Type} (P : Int32 → σ → Prop) (T : Nat → σ → Prop) : gO → σ → Prop := fun r w => (∃ x, r = .inl (some (.int x)) ∧ P x w) ∨ ∃ k, r = .inr k ∧ T k w
def pVT {σ : Type} (P : σ → Prop) (T : Nat → σ → Prop) : gO → σ → Prop := fun r w => (r = .inl none ∧ P w) ∨ ∃ k, r = .inr k ∧ T k w
def pJT {σ : Type} (P : Int64 → σ → Prop) (T : Nat → σ → Prop) : gO → σ → Prop := fun r w => (∃ x, r = .inl (some (.long x)) ∧ P x w) ∨ ∃ k, r = .inr k ∧ T k w
theorem gq {a b : Nat} (h : Nat.ble a b = true) : a ≤ b := Nat.le_of_ble_eq_true h
section GM
variable {X : gX} {M M' : gM} {F L C S F' L' C' S' : Nat} {pc pc' : Nat} {lv : List (Nat × Value)} {st stk : List Value} {ws : va_W} {Post : gO → va_W → Prop}
variable {idx n q ci b : Nat} {fs : List Value} {K : u_T} {N : Nat} {PV : va_W → Prop} {PI : Int32 → va_W → Prop} {PJ : Int64 → va_W → Prop} {PT : Nat → va_W → Prop}
theorem g_vV (As : List Value) (hc : gCV M.y.cls idx M' n) (hd : gD M pc (.invokevirtual idx) 3 pc') (hci : vwCl[ci]? = some (M'.y.cls, K, N)) (he : ws[q]? = some (b, .inr (ci, fs))) (con : G X M' F' L' C' S' 0 (lv_args 0 (.ref b :: As)) [] ws (pV PV)) (kk : ∀ w, PV w → G X M F L (C - C') (S - S') pc' lv st w Post)
    (hs : stk = As.reverse ++ .ref b :: st) (hn : As.length = n) (hent : (lg_sl (.ref b :: As)).length ≤ M'.maxL) (hst : (st.map fun v => v.category).sum ≤ 8) (hF : F' + 1 ≤ F) (hL : 8 + (M'.maxL + 11) + L' ≤ L) (hC : C' ≤ C) (hS : S' ≤ S) : G X M F L C S pc lv stk ws Post := by
  subst hs
  refine g_callV hc hd hci he hn con hent hst hF hL hC hS (fun v w h => ?_) (fun k w h => ?_)
  · obtain ⟨h1, h2⟩ := h
    cases h1
    exact kk w h2
  · cases h.1
theorem g_vI (As : List Value) (hc : gCV M.y.cls idx M' n) (hd : gD M pc (.invokevirtual idx) 3 pc') (hci : vwCl[ci]? = some (M'.y.cls, K, N)) (he : ws[q]? = some (b, .inr (ci, fs))) (con : G X M' F' L' C' S' 0 (lv_args 0 (.ref b :: As)) [] ws (pI PI)) (kk : ∀ x w, PI x w → G X M F L (C - C') (S - S') pc' lv (.int x :: st) w Post)
    (hs : stk = As.reverse ++ .ref b :: st) (hn : As.length = n) (hent : (lg_sl (.ref b :: As)).length ≤ M'.maxL) (hst : (st.map fun v => v.category).sum ≤ 8) (hF : F' + 1 ≤ F) (hL : 8 + (M'.maxL + 11) + L' ≤ L) (hC : C' ≤ C) (hS : S' ≤ S) : G X M F L C S pc lv stk ws Post := by
  subst hs
  refine g_callV hc hd hci he hn con hent hst hF hL hC hS (fun v w h => ?_) (fun k w h => ?_)
  · obtain ⟨x, h1, h2⟩ := h
    cases h1
    exact kk x w h2
  · obtain ⟨x, h1, h2⟩ := h
    cases h1
theorem g_vJ (As : List Value) (hc : gCV M.y.cls idx M' n) (hd : gD M pc (.invokevirtual idx) 3 pc') (hci : vwCl[ci]? = some (M'.y.cls, K, N)) (he : ws[q]? = some (b, .inr (ci, fs))) (con : G X M' F' L' C' S' 0 (lv_args 0 (.ref b :: As)) [] ws (pJ PJ)) (kk : ∀ x w, PJ x w → G X M F L (C - C') (S - S') pc' lv (.long x :: st) w Post)
    (hs : stk = As.reverse ++ .ref b :: st) (hn : As.length = n) (hent : (lg_sl (.ref b :: As)).length ≤ M'.maxL) (hst : (st.map fun v => v.category).sum ≤ 8) (hF : F' + 1 ≤ F) (hL : 8 + (M'.maxL + 11) + L' ≤ L) (hC : C' ≤ C) (hS : S' ≤ S) : G X M F L C S pc lv stk ws Post := by
  subst hs
  refine g_callV hc hd hci he hn con hent hst hF hL hC hS (fun v w h => ?_) (fun k w h => ?_)
  · obtain ⟨x, h1, h2⟩ := h
    cases h1
    exact kk x w h2
  · obtain ⟨x, h1, h2⟩ := h
    cases h1
-- a call that may throw
theorem g_vVT (As : List Value) (hc : gCV M.y.cls idx M' n) (hd : gD M pc (.invokevirtual idx) 3 pc') (hci : vwCl[ci]? = some (M'.y.cls, K, N)) (he : ws[q]? = some (b, .inr (ci, fs))) (con : G X M' F' L' C' S' 0 (lv_args 0 (.ref b :: As)) [] ws (pVT PV PT)) (kk : ∀ w, PV w → G X M F L (C - C') (S - S') pc' lv st w Post) (kt : ∀ k w, PT k w → Post (.inr k) w) (hh : M.hh = some [])
    (hs : stk = As.reverse ++ .ref b :: st) (hn : As.length = n) (hent : (lg_sl (.ref b :: As)).length ≤ M'.maxL) (hst : (st.map fun v => v.category).sum ≤ 8) (hF : F' + 1 ≤ F) (hL : 8 + (M'.maxL + 11) + L' ≤ L) (hC : C' ≤ C) (hS : S' ≤ S) : G X M F L C S pc lv stk ws Post := by
  subst hs
  refine g_callV hc hd hci he hn con hent hst hF hL hC hS (fun v w h => ?_) (fun k w h => ?_)
  · rcases h with ⟨h1, h2⟩ | ⟨k, h1, h2⟩
    · cases h1
      exact kk w h2
    · cases h1
  · rcases h with ⟨h1, h2⟩ | ⟨k', h1, h2⟩
    · cases h1
    · cases h1
      exact ⟨hh, kt k w h2⟩
theorem g_sI (As : List Value) (hc : gCS M.y.cls idx M' n) (hd : gD M pc (.invokestatic idx) 3 pc') (con : G X M' F' L' C' S' 0 (lv_args 0 As) [] ws (pI PI)) (kk : ∀ x w, PI x w → G X M F L (C - C') (S - S') pc' lv (.int x :: st) w Post)
    (hs : stk = As.reverse ++ st) (hn : As.length = n) (hent : (lg_sl As).length ≤ M'.maxL) (hst : (st.map fun v => v.category).sum ≤ 8) (hF : F' + 1 ≤ F) (hL : 8 + (M'.maxL + 11) + L' ≤ L) (hC : C' ≤ C) (hS : S' ≤ S) : G X M F L C S pc lv stk ws Post := by
  subst hs
  refine g_callS hc hd hn con hent hst hF hL hC hS (fun v w h => ?_) (fun k w h => ?_)
  · obtain ⟨x, h1, h2⟩ := h
    cases h1
    exact kk x w h2
  · obtain ⟨x, h1, h2⟩ := h
    cases h1
theorem g_sVT (As : List Value) (hc : gCS M.y.cls idx M' n) (hd : gD M pc (.invokestatic idx) 3 pc') (con : G X M' F' L' C' S' 0 (lv_args 0 As) [] ws (pVT PV PT)) (kk : ∀ w, PV w → G X M F L (C - C') (S - S') pc' lv st w Post) (kt : ∀ k w, PT k w → Post (.inr k) w) (hh : M.hh = some [])
    (hs : stk = As.reverse ++ st) (hn : As.length = n) (hent : (lg_sl As).length ≤ M'.maxL) (hst : (st.map fun v => v.category).sum ≤ 8) (hF : F' + 1 ≤ F) (hL : 8 + (M'.maxL + 11) + L' ≤ L) (hC : C' ≤ C) (hS : S' ≤ S) : G X M F L C S pc lv stk ws Post := by
  subst hs
  refine g_callS hc hd hn con hent hst hF hL hC hS (fun v w h => ?_) (fun k w h => ?_)
  · rcases h with ⟨h1, h2⟩ | ⟨k, h1, h2⟩
    · cases h1
      exact kk w h2
    · cases h1
  · rcases h with ⟨h1, h2⟩ | ⟨k', h1, h2⟩
    · cases h1
    · cases h1
      exact ⟨hh, kt k w h2⟩
theorem g_iV (As : List Value) (hc : gCI M.y.cls idx M' n) (hd : gD M pc (.invokespecial idx) 3 pc') (con : G X M' F' L' C' S' 0 (lv_args 0 (.ref b :: As)) [] ws (pV PV)) (kk : ∀ w, PV w → G X M F L (C - C') (S - S') pc' lv st w Post)
    (hs : stk = As.reverse ++ .ref b :: st) (hn : As.length = n) (hent : (lg_sl (.ref b :: As)).length ≤ M'.maxL) (hst : (st.map fun v => v.category).sum ≤ 8) (hF : F' + 1 ≤ F) (hL : 8 + (M'.maxL + 11) + L' ≤ L) (hC : C' ≤ C) (hS : S' ≤ S) : G X M F L C S pc lv stk ws Post := by
  subst hs
  refine g_callI hc hd hn con hent hst hF hL hC hS (fun v w h => ?_) (fun k w h => ?_)
  · obtain ⟨h1, h2⟩ := h
    cases h1
    exact kk w h2
  · cases h.1
theorem g_mmax {x y : Int32} (hl : Cond.methodLink M.y.cls idx Lib.Math.max.name ∈ gTW) (hd : gD M pc (.invokestatic idx) 3 pc') (hF : 1 ≤ F) (hst : (st.map fun v => v.category).sum + 13 ≤ L) (kk : G X M F L C S pc' lv (.int (if x < y then y else x) :: st) ws Post) : G X M F L C S pc lv (.int y :: .int x :: st) ws Post := by
  obtain ⟨hd, rfl⟩ := hd
  intro p e R s m args below meth c H locs kc ks ls I
  exact va_mmax I.x I.b (I.ml.trans I.hl.1.symm) I.own (I.w args hl) (I.w args w_139) (I.w args w_8) (I.w args w_140) (Nat.le_trans hF I.2.1.1) (Nat.le_trans hst I.2.1.2.1) (by have := I.2.1.2.2.1; omega) (by have := I.2.1.2.2.2; omega) hd (kk p e R s m args below meth c H locs kc ks ls I)
theorem g_mmin {x y : Int32} (hl : Cond.methodLink M.y.cls idx Lib.Math.min.name ∈ gTW) (hd : gD M pc (.invokestatic idx) 3 pc') (hF : 1 ≤ F) (hst : (st.map fun v => v.category).sum + 13 ≤ L) (kk : G X M F L C S pc' lv (.int (if y < x then y else x) :: st) ws Post) : G X M F L C S pc lv (.int y :: .int x :: st) ws Post := by
  obtain ⟨hd, rfl⟩ := hd
  intro p e R s m args below meth c H locs kc ks ls I
  exact va_mmin I.x I.b (I.ml.trans I.hl.1.symm) I.own (I.w args hl) (I.w args w_136) (I.w args w_8) (I.w args w_137) (Nat.le_trans hF I.2.1.1) (Nat.le_trans hst I.2.1.2.1) (by have := I.2.1.2.2.1; omega) (by have := I.2.1.2.2.2; omega) hd (kk p e R s m args below meth c H locs kc ks ls I)
theorem gSt.up {p : Program} {R : Room} {s : State} {m : MethodId} {meth : Method} {c : Code} {H : Heap} {locs : List Loc} {kc ks : Nat} {ls : Array Slot} (I : gI X M F L C S lv ws p R s m meth c H locs kc ks ls) : ∀ a : Nat, a < X.H0.size → ¬ gHi X a → s.heap[a]? = X.H0[a]? := fun a h _ => I.low.2 a h
theorem g_gets {nm : String} {t : Nat} (hl : gLk M.y.cls idx "SelfArranger" nm "[I") (hz : ∀ U, gSt X U → va_Z "SelfArranger" nm "[I" (.ref t) (gHi X) U X.H0) (hd : gD M pc (.getstatic idx) 3 pc') (kk : G X M F L C S pc' lv (.ref t :: st) ws Post) : G X M F L C S pc lv st ws Post := by
  obtain ⟨hd, rfl⟩ := hd
  intro p e R s m args below meth c H locs kc ks ls I
  have h1 := ((hz s I.T.2.2).kept (gSt.up I)).narrow (B := gA X s) (fun q h => h.1)
  rcases hl with hl | ⟨h, hl⟩
  · exact va_gets I.x I.b h1 I.sS I.own (I.w args hl) (fun _ h => h) hd (kk p e R s m args below meth c H locs kc ks ls I)
  · exact va_getsN I.x I.b h1 I.sS I.own (I.w args hl) (fun _ h => h) hd (kk p e R s m args below meth c H locs kc ks ls I)
theorem g_get1 (hl : gLk M.y.cls idx "SelfArranger" "FIRST_COLUMN" "[I") (hd : gD M pc (.getstatic idx) 3 pc') (kk : G X M F L C S pc' lv (.ref X.t1 :: st) ws Post) : G X M F L C S pc lv st ws Post := g_gets hl (fun _ h => h.1) hd kk
theorem g_get2 (hl : gLk M.y.cls idx "SelfArranger" "SECOND_COLUMN" "[I") (hd : gD M pc (.getstatic idx) 3 pc') (kk : G X M F L C S pc' lv (.ref X.t2 :: st) ws Post) : G X M F L C S pc lv st ws Post := g_gets hl (fun _ h => h.2.1) hd kk
theorem g_tald {f : Nat → Value} {t j : Nat} {i : Int32} {v : Int32} (hz : ∀ U, gSt X U → va_T .int t 9 f (gHi X) U X.H0) (hd : gD M pc .iaload 1 pc') (hi : i = nI j) (hj : j < 9) (hv : f j = .int v) (kk : G X M F L C S pc' lv (.int v :: st) ws Post) : G X M F L C S pc lv (.int i :: .ref t :: st) ws Post := by
  obtain ⟨hd, rfl⟩ := hd
  subst hi
  have hcl : (nI j).toNatClampNeg = j := nI_clamp (by omega)
  intro p e R s m args below meth c H locs kc ks ls I
  have h1 := ((hz s I.T.2.2).kept (gSt.up I)).narrow (B := gA X s) (fun q h => h.1)
  exact va_ti I.x I.b h1 I.sS (vp_in_nI hj (by decide)) (by rw [hcl]; exact hv) hd (kk p e R s m args below meth c H locs kc ks ls I)
theorem g_ald1 {j : Nat} {i : Int32} (hd : gD M pc .iaload 1 pc') (hi : i = nI j) (hj : j < 9) (kk : G X M F L C S pc' lv (.int (([0, 1, 2, 0, 0, 1, 1, 2, 2] : List Int32).getD j 0) :: st) ws Post) : G X M F L C S pc lv (.int i :: .ref X.t1 :: st) ws Post := g_tald (f := gF1) (fun _ h => h.2.2.1) hd hi hj rfl kk
theorem g_ald2 {j : Nat} {i : Int32} (hd : gD M pc .iaload 1 pc') (hi : i = nI j) (hj : j < 9) (kk : G X M F L C S pc' lv (.int (([-1, -1, -1, 1, 2, 0, 2, 0, 1] : List Int32).getD j 0) :: st) ws Post) : G X M F L C S pc lv (.int i :: .ref X.t2 :: st) ws Post := g_tald (f := gF2) (fun _ h => h.2.2.2.1) hd hi hj rfl kk
theorem gX.sbA {p : Program} {R : Room} {s : State} {m : MethodId} {meth : Method} {c : Code} {H : Heap} {locs : List Loc} {kc ks : Nat} {ls : Array Slot} (I : gI X M F L C S lv ws p R s m meth c H locs kc ks ls) : va_X X.sb X.sl X.sx s s.heap ∧ X.sb < s.heap.size ∧ ¬ gA X s X.sb := by
  have h := I.T.2.2.2.2.2.2
  exact ⟨h.1.kept (I.low.2 _ h.2.1), Nat.lt_of_lt_of_le h.2.1 I.low.1, fun z => Nat.not_le.mpr h.2.1 z.1⟩
theorem g_sald {j : Nat} {i : Int32} (hd : gD M pc .iaload 1 pc') (hi : i = nI j) (hj : j < X.sl) (hn : X.sl < 2 ^ 31) (kk : G X M F L C S pc' lv (.int (X.sx j) :: st) ws Post) : G X M F L C S pc lv (.int i :: .ref X.sb :: st) ws Post := by
  obtain ⟨hd, rfl⟩ := hd
  subst hi
  have hcl : (nI j).toNatClampNeg = j := nI_clamp (Nat.lt_trans hj hn)
  intro p e R s m args below meth c H locs kc ks ls I
  obtain ⟨h1, h2, h3⟩ := gX.sbA I
  exact va_sld I.x I.b h1 h2 h3 I.sS (vp_in_nI hj hn) hd (by rw [hcl]; exact kk p e R s m args below meth c H locs kc ks ls I)
theorem g_slen (hd : gD M pc .arraylength 1 pc') (kk : G X M F L C S pc' lv (.int (nI X.sl) :: st) ws Post) : G X M F L C S pc lv (.ref X.sb :: st) ws Post := by
  obtain ⟨hd, rfl⟩ := hd
  intro p e R s m args below meth c H locs kc ks ls I
  obtain ⟨h1, h2, h3⟩ := gX.sbA I
  exact va_slen I.x I.b h1 h2 h3 I.sS hd (kk p e R s m args below meth c H locs kc ks ls I)
end GM
end
section
/-! Worlds of 95 cells, by their places: the cell at place k lies at a k and is c k. Rules over them (written by wip/mkw.py) -/
def wl (a : Nat → Nat) (c : Nat → va_E) : va_W := (List.range 95).map (fun k => (a k, c k))
theorem wl_get {a : Nat → Nat} {c : Nat → va_E} {q : Nat} {e : va_E} (hq : q < 95) (he : c q = e) : (wl a c)[q]? = some (a q, e) := by
  rw [← he]
  simp [wl, hq]
theorem wl_set {a : Nat → Nat} {c : Nat → va_E} {q : Nat} {e : va_E} : (wl a c).set q (a q, e) = wl a (va_up c q e) := by
  apply List.ext_getElem?
  intro i
  by_cases hi : i = q
  · subst hi
    by_cases h : i < 95
    · simp [wl, List.getElem?_set, h, va_up]
    · simp [wl, List.getElem?_set, h]
  · rw [List.getElem?_set_ne (fun z => hi z.symm)]
    by_cases h : i < 95
    · simp [wl, h, va_up, hi]
    · simp [wl, h]
def wP (a : Nat → Nat) (Post : gO → (Nat → va_E) → Prop) : gO → va_W → Prop := fun r w => ∃ c, w = wl a c ∧ Post r c
def GW (X : gX) (a : Nat → Nat) (M : gM) (F L C S : Nat) (pc : Nat) (lv : List (Nat × Value)) (st : List Value) (c : Nat → va_E) (Post : gO → (Nat → va_E) → Prop) : Prop := G X M F L C S pc lv st (wl a c) (wP a Post)
section GWR
variable {X : gX} {a : Nat → Nat} {M M' : gM} {F L C S F' L' C' S' : Nat} {pc pc' tgt : Nat} {lv : List (Nat × Value)} {st stk : List Value} {c : Nat → va_E} {Post : gO → (Nat → va_E) → Prop}
theorem w_iconst {n : Int} (v : Int32) (hd : gD M pc (.iconst n) 1 pc') (hv : Int32.ofInt n = v) (k : GW X a M F L C S pc' lv (.int v :: st) c Post) : GW X a M F L C S pc lv st c Post := g_iconst v hd hv k
theorem w_bipush {n : Int} (v : Int32) (hd : gD M pc (.bipush n) 2 pc') (hv : (Int8.ofInt n).toInt32 = v) (k : GW X a M F L C S pc' lv (.int v :: st) c Post) : GW X a M F L C S pc lv st c Post := g_bipush v hd hv k
theorem w_sipush {n : Int} (v : Int32) (hd : gD M pc (.sipush n) 3 pc') (hv : (Int16.ofInt n).toInt32 = v) (k : GW X a M F L C S pc' lv (.int v :: st) c Post) : GW X a M F L C S pc lv st c Post := g_sipush v hd hv k
theorem w_lconst {n : Fin 2} (v : Int64) (hd : gD M pc (.lconst n) 1 pc') (hv : Int64.ofNat (n : Nat) = v) (k : GW X a M F L C S pc' lv (.long v :: st) c Post) : GW X a M F L C S pc lv st c Post := g_lconst v hd hv k
theorem w_ldc_w {i : Nat} (v : Int32) (hd : gD M pc (.ldc_w i) 3 pc') (hw : Cond.constant M.y.cls i v ∈ gTW) (k : GW X a M F L C S pc' lv (.int v :: st) c Post) : GW X a M F L C S pc lv st c Post := g_ldc_w v hd hw k
theorem w_ldc {i : Nat} (v : Int32) (hd : gD M pc (.ldc i) 2 pc') (hw : Cond.constant M.y.cls i v ∈ gTW) (k : GW X a M F L C S pc' lv (.int v :: st) c Post) : GW X a M F L C S pc lv st c Post := g_ldc v hd hw k
theorem w_iload_n {j : Fin 4} {x : Int32} (hd : gD M pc (.iload_n j) 1 pc') (hl : lv.lookup j.val = some (.int x)) (k : GW X a M F L C S pc' lv (.int x :: st) c Post) : GW X a M F L C S pc lv st c Post := g_iload_n hd hl k
theorem w_iload {i : Nat} {x : Int32} (hd : gD M pc (.iload i) 2 pc') (hl : lv.lookup i = some (.int x)) (k : GW X a M F L C S pc' lv (.int x :: st) c Post) : GW X a M F L C S pc lv st c Post := g_iload hd hl k
theorem w_lload_n {j : Fin 4} {x : Int64} (hd : gD M pc (.lload_n j) 1 pc') (hl : lv.lookup j.val = some (.long x)) (k : GW X a M F L C S pc' lv (.long x :: st) c Post) : GW X a M F L C S pc lv st c Post := g_lload_n hd hl k
theorem w_lload {i : Nat} {x : Int64} (hd : gD M pc (.lload i) 2 pc') (hl : lv.lookup i = some (.long x)) (k : GW X a M F L C S pc' lv (.long x :: st) c Post) : GW X a M F L C S pc lv st c Post := g_lload hd hl k
theorem w_aload_n {j : Fin 4} {x : Nat} (hd : gD M pc (.aload_n j) 1 pc') (hl : lv.lookup j.val = some (.ref x)) (k : GW X a M F L C S pc' lv (.ref x :: st) c Post) : GW X a M F L C S pc lv st c Post := g_aload_n hd hl k
theorem w_aload {i : Nat} {x : Nat} (hd : gD M pc (.aload i) 2 pc') (hl : lv.lookup i = some (.ref x)) (k : GW X a M F L C S pc' lv (.ref x :: st) c Post) : GW X a M F L C S pc lv st c Post := g_aload hd hl k
theorem w_istore_n {j : Fin 4} {x : Int32} (hd : gD M pc (.istore_n j) 1 pc') (hn : j.val < M.maxL) (k : GW X a M F L C S pc' (lset j.val (.int x) lv) st c Post) : GW X a M F L C S pc lv (.int x :: st) c Post := g_istore_n hd hn k
theorem w_istore {i : Nat} {x : Int32} (hd : gD M pc (.istore i) 2 pc') (hn : i < M.maxL) (k : GW X a M F L C S pc' (lset i (.int x) lv) st c Post) : GW X a M F L C S pc lv (.int x :: st) c Post := g_istore hd hn k
theorem w_lstore_n {j : Fin 4} {x : Int64} (hd : gD M pc (.lstore_n j) 1 pc') (hn : j.val + 1 < M.maxL) (k : GW X a M F L C S pc' (lset j.val (.long x) lv) st c Post) : GW X a M F L C S pc lv (.long x :: st) c Post := g_lstore_n hd hn k
theorem w_lstore {i : Nat} {x : Int64} (hd : gD M pc (.lstore i) 2 pc') (hn : i + 1 < M.maxL) (k : GW X a M F L C S pc' (lset i (.long x) lv) st c Post) : GW X a M F L C S pc lv (.long x :: st) c Post := g_lstore hd hn k
theorem w_astore_n {j : Fin 4} {x : Nat} (hd : gD M pc (.astore_n j) 1 pc') (hn : j.val < M.maxL) (k : GW X a M F L C S pc' (lset j.val (.ref x) lv) st c Post) : GW X a M F L C S pc lv (.ref x :: st) c Post := g_astore_n hd hn k
theorem w_astore {i : Nat} {x : Nat} (hd : gD M pc (.astore i) 2 pc') (hn : i < M.maxL) (k : GW X a M F L C S pc' (lset i (.ref x) lv) st c Post) : GW X a M F L C S pc lv (.ref x :: st) c Post := g_astore hd hn k
theorem w_iinc {i : Nat} {n : Int} {x : Int32} (v : Int32) (hd : gD M pc (.iinc i n) 3 pc') (hl : lv.lookup i = some (.int x)) (hv : x + Int32.ofInt n = v) (hn : i < M.maxL) (k : GW X a M F L C S pc' (lset i (.int v) lv) st c Post) : GW X a M F L C S pc lv st c Post := g_iinc v hd hl hv hn k
theorem w_iadd {x y : Int32} (hd : gD M pc .iadd 1 pc') (k : GW X a M F L C S pc' lv (.int (x + y) :: st) c Post) : GW X a M F L C S pc lv (.int y :: .int x :: st) c Post := g_iadd hd k
theorem w_isub {x y : Int32} (hd : gD M pc .isub 1 pc') (k : GW X a M F L C S pc' lv (.int (x - y) :: st) c Post) : GW X a M F L C S pc lv (.int y :: .int x :: st) c Post := g_isub hd k
theorem w_imul {x y : Int32} (hd : gD M pc .imul 1 pc') (k : GW X a M F L C S pc' lv (.int (x * y) :: st) c Post) : GW X a M F L C S pc lv (.int y :: .int x :: st) c Post := g_imul hd k
theorem w_iand {x y : Int32} (hd : gD M pc .iand 1 pc') (k : GW X a M F L C S pc' lv (.int (x &&& y) :: st) c Post) : GW X a M F L C S pc lv (.int y :: .int x :: st) c Post := g_iand hd k
theorem w_ior {x y : Int32} (hd : gD M pc .ior 1 pc') (k : GW X a M F L C S pc' lv (.int (x ||| y) :: st) c Post) : GW X a M F L C S pc lv (.int y :: .int x :: st) c Post := g_ior hd k
theorem w_ixor {x y : Int32} (hd : gD M pc .ixor 1 pc') (k : GW X a M F L C S pc' lv (.int (x ^^^ y) :: st) c Post) : GW X a M F L C S pc lv (.int y :: .int x :: st) c Post := g_ixor hd k
theorem w_idiv {x y : Int32} (hd : gD M pc .idiv 1 pc') (hne : ¬ y = 0) (k : GW X a M F L C S pc' lv (.int (x / y) :: st) c Post) : GW X a M F L C S pc lv (.int y :: .int x :: st) c Post := g_idiv hd hne k
theorem w_irem {x y : Int32} (hd : gD M pc .irem 1 pc') (hne : ¬ y = 0) (k : GW X a M F L C S pc' lv (.int (x - x / y * y) :: st) c Post) : GW X a M F L C S pc lv (.int y :: .int x :: st) c Post := g_irem hd hne k
theorem w_ishl {x y : Int32} (hd : gD M pc .ishl 1 pc') (k : GW X a M F L C S pc' lv (.int (x <<< (y &&& 31)) :: st) c Post) : GW X a M F L C S pc lv (.int y :: .int x :: st) c Post := g_ishl hd k
theorem w_ishr {x y : Int32} (hd : gD M pc .ishr 1 pc') (k : GW X a M F L C S pc' lv (.int (x >>> (y &&& 31)) :: st) c Post) : GW X a M F L C S pc lv (.int y :: .int x :: st) c Post := g_ishr hd k
theorem w_ladd {x y : Int64} (hd : gD M pc .ladd 1 pc') (k : GW X a M F L C S pc' lv (.long (x + y) :: st) c Post) : GW X a M F L C S pc lv (.long y :: .long x :: st) c Post := g_ladd hd k
theorem w_lsub {x y : Int64} (hd : gD M pc .lsub 1 pc') (k : GW X a M F L C S pc' lv (.long (x - y) :: st) c Post) : GW X a M F L C S pc lv (.long y :: .long x :: st) c Post := g_lsub hd k
theorem w_lmul {x y : Int64} (hd : gD M pc .lmul 1 pc') (k : GW X a M F L C S pc' lv (.long (x * y) :: st) c Post) : GW X a M F L C S pc lv (.long y :: .long x :: st) c Post := g_lmul hd k
theorem w_lcmp {x y : Int64} (hd : gD M pc .lcmp 1 pc') (k : GW X a M F L C S pc' lv (.int (lg_cmp x y) :: st) c Post) : GW X a M F L C S pc lv (.long y :: .long x :: st) c Post := g_lcmp hd k
theorem w_iushr {x y : Int32} (hd : gD M pc .iushr 1 pc') (k : GW X a M F L C S pc' lv (.int (x.toUInt32 >>> (y.toUInt32 &&& Int32.toUInt32 31)).toInt32 :: st) c Post) : GW X a M F L C S pc lv (.int y :: .int x :: st) c Post := g_iushr hd k
theorem w_i2l {x : Int32} (hd : gD M pc .i2l 1 pc') (k : GW X a M F L C S pc' lv (.long x.toInt64 :: st) c Post) : GW X a M F L C S pc lv (.int x :: st) c Post := g_i2l hd k
theorem w_ineg {x : Int32} (hd : gD M pc .ineg 1 pc') (k : GW X a M F L C S pc' lv (.int (-x) :: st) c Post) : GW X a M F L C S pc lv (.int x :: st) c Post := g_ineg hd k
theorem w_dup {u : Value} (hd : gD M pc .dup 1 pc') (ha : u.category = 1) (k : GW X a M F L C S pc' lv (u :: u :: st) c Post) : GW X a M F L C S pc lv (u :: st) c Post := g_dup hd ha k
theorem w_pop {u : Value} (hd : gD M pc .pop 1 pc') (ha : u.category = 1) (k : GW X a M F L C S pc' lv (st) c Post) : GW X a M F L C S pc lv (u :: st) c Post := g_pop hd ha k
theorem w_dup_x1 {u b : Value} (hd : gD M pc .dup_x1 1 pc') (ha : u.category = 1) (hb : b.category = 1) (k : GW X a M F L C S pc' lv (u :: b :: u :: st) c Post) : GW X a M F L C S pc lv (u :: b :: st) c Post := g_dup_x1 hd ha hb k
theorem w_dup_x2 {u b z : Value} (hd : gD M pc .dup_x2 1 pc') (ha : u.category = 1) (hb : b.category = 1) (hz : z.category = 1) (k : GW X a M F L C S pc' lv (u :: b :: z :: u :: st) c Post) : GW X a M F L C S pc lv (u :: b :: z :: st) c Post := g_dup_x2 hd ha hb hz k
theorem w_dup2 {u b : Value} (hd : gD M pc .dup2 1 pc') (ha : u.category = 1) (hb : b.category = 1) (k : GW X a M F L C S pc' lv (u :: b :: u :: b :: st) c Post) : GW X a M F L C S pc lv (u :: b :: st) c Post := g_dup2 hd ha hb k
theorem w_dup2L {u : Value} (hd : gD M pc .dup2 1 pc') (ha : u.category = 2) (k : GW X a M F L C S pc' lv (u :: u :: st) c Post) : GW X a M F L C S pc lv (u :: st) c Post := g_dup2L hd ha k
theorem w_if_eq {x : Int32} {off : Int} (tgt : Nat) (hd : gD M pc (.ifCond .eq off) 3 pc') (ht : (pc : Int) + off = (tgt : Int)) (kt : x = 0 → GW X a M F L C S tgt lv st c Post) (kf : ¬ x = 0 → GW X a M F L C S pc' lv st c Post) : GW X a M F L C S pc lv (.int x :: st) c Post := g_if_eq tgt hd ht kt kf
theorem w_icmp_eq {x y : Int32} {off : Int} (tgt : Nat) (hd : gD M pc (.if_icmp .eq off) 3 pc') (ht : (pc : Int) + off = (tgt : Int)) (kt : x = y → GW X a M F L C S tgt lv st c Post) (kf : ¬ x = y → GW X a M F L C S pc' lv st c Post) : GW X a M F L C S pc lv (.int y :: .int x :: st) c Post := g_icmp_eq tgt hd ht kt kf
theorem w_if_ne {x : Int32} {off : Int} (tgt : Nat) (hd : gD M pc (.ifCond .ne off) 3 pc') (ht : (pc : Int) + off = (tgt : Int)) (kt : ¬ x = 0 → GW X a M F L C S tgt lv st c Post) (kf : x = 0 → GW X a M F L C S pc' lv st c Post) : GW X a M F L C S pc lv (.int x :: st) c Post := g_if_ne tgt hd ht kt kf
theorem w_icmp_ne {x y : Int32} {off : Int} (tgt : Nat) (hd : gD M pc (.if_icmp .ne off) 3 pc') (ht : (pc : Int) + off = (tgt : Int)) (kt : ¬ x = y → GW X a M F L C S tgt lv st c Post) (kf : x = y → GW X a M F L C S pc' lv st c Post) : GW X a M F L C S pc lv (.int y :: .int x :: st) c Post := g_icmp_ne tgt hd ht kt kf
theorem w_if_lt {x : Int32} {off : Int} (tgt : Nat) (hd : gD M pc (.ifCond .lt off) 3 pc') (ht : (pc : Int) + off = (tgt : Int)) (kt : x < 0 → GW X a M F L C S tgt lv st c Post) (kf : ¬ x < 0 → GW X a M F L C S pc' lv st c Post) : GW X a M F L C S pc lv (.int x :: st) c Post := g_if_lt tgt hd ht kt kf
theorem w_icmp_lt {x y : Int32} {off : Int} (tgt : Nat) (hd : gD M pc (.if_icmp .lt off) 3 pc') (ht : (pc : Int) + off = (tgt : Int)) (kt : x < y → GW X a M F L C S tgt lv st c Post) (kf : ¬ x < y → GW X a M F L C S pc' lv st c Post) : GW X a M F L C S pc lv (.int y :: .int x :: st) c Post := g_icmp_lt tgt hd ht kt kf
theorem w_if_ge {x : Int32} {off : Int} (tgt : Nat) (hd : gD M pc (.ifCond .ge off) 3 pc') (ht : (pc : Int) + off = (tgt : Int)) (kt : 0 ≤ x → GW X a M F L C S tgt lv st c Post) (kf : ¬ 0 ≤ x → GW X a M F L C S pc' lv st c Post) : GW X a M F L C S pc lv (.int x :: st) c Post := g_if_ge tgt hd ht kt kf
theorem w_icmp_ge {x y : Int32} {off : Int} (tgt : Nat) (hd : gD M pc (.if_icmp .ge off) 3 pc') (ht : (pc : Int) + off = (tgt : Int)) (kt : y ≤ x → GW X a M F L C S tgt lv st c Post) (kf : ¬ y ≤ x → GW X a M F L C S pc' lv st c Post) : GW X a M F L C S pc lv (.int y :: .int x :: st) c Post := g_icmp_ge tgt hd ht kt kf
theorem w_if_gt {x : Int32} {off : Int} (tgt : Nat) (hd : gD M pc (.ifCond .gt off) 3 pc') (ht : (pc : Int) + off = (tgt : Int)) (kt : 0 < x → GW X a M F L C S tgt lv st c Post) (kf : ¬ 0 < x → GW X a M F L C S pc' lv st c Post) : GW X a M F L C S pc lv (.int x :: st) c Post := g_if_gt tgt hd ht kt kf
theorem w_icmp_gt {x y : Int32} {off : Int} (tgt : Nat) (hd : gD M pc (.if_icmp .gt off) 3 pc') (ht : (pc : Int) + off = (tgt : Int)) (kt : y < x → GW X a M F L C S tgt lv st c Post) (kf : ¬ y < x → GW X a M F L C S pc' lv st c Post) : GW X a M F L C S pc lv (.int y :: .int x :: st) c Post := g_icmp_gt tgt hd ht kt kf
theorem w_if_le {x : Int32} {off : Int} (tgt : Nat) (hd : gD M pc (.ifCond .le off) 3 pc') (ht : (pc : Int) + off = (tgt : Int)) (kt : x ≤ 0 → GW X a M F L C S tgt lv st c Post) (kf : ¬ x ≤ 0 → GW X a M F L C S pc' lv st c Post) : GW X a M F L C S pc lv (.int x :: st) c Post := g_if_le tgt hd ht kt kf
theorem w_icmp_le {x y : Int32} {off : Int} (tgt : Nat) (hd : gD M pc (.if_icmp .le off) 3 pc') (ht : (pc : Int) + off = (tgt : Int)) (kt : x ≤ y → GW X a M F L C S tgt lv st c Post) (kf : ¬ x ≤ y → GW X a M F L C S pc' lv st c Post) : GW X a M F L C S pc lv (.int y :: .int x :: st) c Post := g_icmp_le tgt hd ht kt kf
theorem w_goto {off : Int} (tgt : Nat) (hd : gD M pc (.goto off) 3 pc') (ht : (pc : Int) + off = (tgt : Int)) (k : GW X a M F L C S tgt lv st c Post) : GW X a M F L C S pc lv st c Post := g_goto tgt hd ht k
theorem w_tabOut {x : Int32} {dflt lo hi : Int} {offs : Array Int} {n : Nat} (tgt : Nat) (hd : gD M pc (.tableswitch dflt lo hi offs) n pc') (h : x.toInt < lo ∨ hi < x.toInt) (ht : (pc : Int) + dflt = (tgt : Int)) (k : GW X a M F L C S tgt lv st c Post) : GW X a M F L C S pc lv (.int x :: st) c Post := g_tabOut tgt hd h ht k
theorem w_tabIn {x : Int32} {dflt lo hi off : Int} {offs : Array Int} {n : Nat} (tgt : Nat) (hd : gD M pc (.tableswitch dflt lo hi offs) n pc') (h1 : ¬ x.toInt < lo) (h2 : ¬ hi < x.toInt) (ho : offs[(x.toInt - lo).toNat]? = some off) (ht : (pc : Int) + off = (tgt : Int)) (k : GW X a M F L C S tgt lv st c Post) : GW X a M F L C S pc lv (.int x :: st) c Post := g_tabIn tgt hd h1 h2 ho ht k
theorem w_sel (is : List Nat) {lv' : List (Nat × Value)} (h : lsel lv is = lv') (k : GW X a M F L C S pc lv' st c Post) : GW X a M F L C S pc lv st c Post := g_sel is h k
theorem w_iret {v : Int32} (hd : gD M pc .ireturn 1 pc') (hr : M.ret = some .int) (hp : Post (.inl (some (.int v))) c) : GW X a M F L C S pc lv [.int v] c Post := g_iret hd hr ⟨c, rfl, hp⟩
theorem w_lret {v : Int64} (hd : gD M pc .lreturn 1 pc') (hr : M.ret = some .long) (hp : Post (.inl (some (.long v))) c) : GW X a M F L C S pc lv [.long v] c Post := g_lret hd hr ⟨c, rfl, hp⟩
theorem w_zret {v : Int32} (hz : v = 0 ∨ v = 1) (hd : gD M pc .ireturn 1 pc') (hr : M.ret = some .boolean) (hp : Post (.inl (some (.int v))) c) : GW X a M F L C S pc lv [.int v] c Post := g_zret hz hd hr ⟨c, rfl, hp⟩
theorem w_vret (hd : gD M pc .return_ 1 pc') (hr : M.ret = none) (hp : Post (.inl none) c) : GW X a M F L C S pc lv [] c Post := g_vret hd hr ⟨c, rfl, hp⟩
theorem w_post {Post' : gO → (Nat → va_E) → Prop} (h : ∀ r w, Post' r w → Post r w) (k : GW X a M F L C S pc lv st c Post') : GW X a M F L C S pc lv st c Post := g_post (fun r w ⟨c', h1, h2⟩ => ⟨c', h1, h r c' h2⟩) k
theorem w_less {F' L' C' S' : Nat} (hF : F' ≤ F) (hL : L' ≤ L) (hC : C' ≤ C) (hS : S' ≤ S) (k : GW X a M F' L' C' S' pc lv st c Post) : GW X a M F L C S pc lv st c Post := g_less hF hL hC hS k
theorem w_getf {idx ci k q : Nat} {fs : List Value} {v : Value} (hf : gFg M.y.cls idx ci k) (hd : gD M pc (.getfield idx) 3 pc') (he : c q = .inr (ci, fs)) (hv : fs[k]? = some v) (hq : q < 95)
    (kk : GW X a M F L C S pc' lv (v :: st) c Post) : GW X a M F L C S pc lv (.ref (a q) :: st) c Post := g_getf hf hd (wl_get hq he) hv kk
theorem w_putf {idx ci k q : Nat} {fs : List Value} {v : Value} {ty : FieldType} (hf : gFp M.y.cls idx ci k ty false) (hd : gD M pc (.putfield idx) 3 pc') (he : c q = .inr (ci, fs)) (hn : narrow ty v = v) (hfit : fits ty v = true) (hl : k < fs.length) (hq : q < 95)
    (kk : GW X a M F L C S pc' lv st (va_up c q (.inr (ci, fs.set k v))) Post) : GW X a M F L C S pc lv (v :: .ref (a q) :: st) c Post := g_putf hf hd (wl_get hq he) hn hfit hl (by rw [wl_set]; exact kk)
theorem w_iald {q n j : Nat} {f : Nat → Int32} {i : Int32} (hd : gD M pc .iaload 1 pc') (he : c q = .inl (X.cI, n, .inl f)) (hi : i = nI j) (hj : j < n) (hn : n < 2 ^ 31) (hq : q < 95)
    (kk : GW X a M F L C S pc' lv (.int (f j) :: st) c Post) : GW X a M F L C S pc lv (.int i :: .ref (a q) :: st) c Post := g_iald hd (wl_get hq he) hi hj hn kk
theorem w_zald {q n j : Nat} {f : Nat → Int32} {i : Int32} (hd : gD M pc .baload 1 pc') (he : c q = .inl (X.cZ, n, .inl f)) (hi : i = nI j) (hj : j < n) (hn : n < 2 ^ 31) (hq : q < 95)
    (kk : GW X a M F L C S pc' lv (.int (f j) :: st) c Post) : GW X a M F L C S pc lv (.int i :: .ref (a q) :: st) c Post := g_zald hd (wl_get hq he) hi hj hn kk
theorem w_lald {q n j : Nat} {f : Nat → Int64} {i : Int32} (hd : gD M pc .laload 1 pc') (he : c q = .inl (X.cJ, n, .inr (.inl f))) (hi : i = nI j) (hj : j < n) (hn : n < 2 ^ 31) (hq : q < 95)
    (kk : GW X a M F L C S pc' lv (.long (f j) :: st) c Post) : GW X a M F L C S pc lv (.int i :: .ref (a q) :: st) c Post := g_lald hd (wl_get hq he) hi hj hn kk
theorem w_aald {q n j : Nat} {f : Nat → Option Nat} {i : Int32} (hd : gD M pc .aaload 1 pc') (he : c q = .inl (X.cQ, n, .inr (.inr (.inr (.inr f))))) (hi : i = nI j) (hj : j < n) (hn : n < 2 ^ 31) (hq : q < 95)
    (kk : GW X a M F L C S pc' lv (va_rf (f j) :: st) c Post) : GW X a M F L C S pc lv (.int i :: .ref (a q) :: st) c Post := g_aald hd (wl_get hq he) hi hj hn kk
theorem w_iast {q n j : Nat} {f : Nat → Int32} {i : Int32} {x : Int32} (hd : gD M pc .iastore 1 pc') (he : c q = .inl (X.cI, n, .inl f)) (hi : i = nI j) (hj : j < n) (hn : n < 2 ^ 31) (hq : q < 95)
    (kk : GW X a M F L C S pc' lv st (va_up c q (.inl (X.cI, n, .inl (upd f j x)))) Post) : GW X a M F L C S pc lv (.int x :: .int i :: .ref (a q) :: st) c Post := g_iast hd (wl_get hq he) hi hj hn (by rw [wl_set]; exact kk)
theorem w_zast {q n j : Nat} {f : Nat → Int32} {i : Int32} {x : Int32} (hd : gD M pc .bastore 1 pc') (he : c q = .inl (X.cZ, n, .inl f)) (hi : i = nI j) (hj : j < n) (hn : n < 2 ^ 31) (hx : vp_nar .boolean x = x) (hq : q < 95)
    (kk : GW X a M F L C S pc' lv st (va_up c q (.inl (X.cZ, n, .inl (upd f j x)))) Post) : GW X a M F L C S pc lv (.int x :: .int i :: .ref (a q) :: st) c Post := g_zast hd (wl_get hq he) hi hj hn hx (by rw [wl_set]; exact kk)
theorem w_last {q n j : Nat} {f : Nat → Int64} {i : Int32} {x : Int64} (hd : gD M pc .lastore 1 pc') (he : c q = .inl (X.cJ, n, .inr (.inl f))) (hi : i = nI j) (hj : j < n) (hn : n < 2 ^ 31) (hq : q < 95)
    (kk : GW X a M F L C S pc' lv st (va_up c q (.inl (X.cJ, n, .inr (.inl (vp_updL f j x))))) Post) : GW X a M F L C S pc lv (.long x :: .int i :: .ref (a q) :: st) c Post := g_last hd (wl_get hq he) hi hj hn (by rw [wl_set]; exact kk)
theorem w_aast {q n j qk ci : Nat} {f : Nat → Option Nat} {i : Int32} {vs : List Value} {r : vw_C} (hd : gD M pc .aastore 1 pc') (he : c q = .inl (X.cQ, n, .inr (.inr (.inr (.inr f))))) (hv : c qk = .inr (ci, vs)) (hc : vwCl[ci]? = some r) (hr : r.1 = gShape) (hi : i = nI j) (hj : j < n) (hn : n < 2 ^ 31) (hq : q < 95) (hqk : qk < 95)
    (kk : GW X a M F L C S pc' lv st (va_up c q (.inl (X.cQ, n, .inr (.inr (.inr (.inr (va_up f j (some (a qk)))))))) ) Post) : GW X a M F L C S pc lv (.ref (a qk) :: .int i :: .ref (a q) :: st) c Post := g_aast hd (wl_get hq he) (wl_get hqk hv) hc hr hi hj hn (by rw [wl_set]; exact kk)
theorem w_alen {q : Nat} {x : vp_A} (hd : gD M pc .arraylength 1 pc') (he : c q = .inl (X.cI, x)) (hq : q < 95)
    (kk : GW X a M F L C S pc' lv (.int (nI x.1) :: st) c Post) : GW X a M F L C S pc lv (.ref (a q) :: st) c Post := g_alen hd (wl_get hq he) kk
theorem w_vV {idx n q ci : Nat} {fs : List Value} {K : u_T} {N : Nat} {P : (Nat → va_E) → Prop} (As : List Value) (hc : gCV M.y.cls idx M' n) (hd : gD M pc (.invokevirtual idx) 3 pc') (hci : vwCl[ci]? = some (M'.y.cls, K, N)) (he : c q = .inr (ci, fs)) (hq : q < 95) (con : GW X a M' F' L' C' S' 0 (lv_args 0 (.ref (a q) :: As)) [] c (pV P)) (kk : ∀ w, P w → GW X a M F L (C - C') (S - S') pc' lv st w Post)
    (hs : stk = As.reverse ++ .ref (a q) :: st) (hn : As.length = n) (hent : (lg_sl (.ref (a q) :: As)).length ≤ M'.maxL) (hst : (st.map fun v => v.category).sum ≤ 8) (hF : F' + 1 ≤ F) (hL : 8 + (M'.maxL + 11) + L' ≤ L) (hC : C' ≤ C) (hS : S' ≤ S) : GW X a M F L C S pc lv stk c Post := by
  subst hs
  refine g_callV hc hd hci (wl_get hq he) hn con hent hst hF hL hC hS (fun v w h => ?_) (fun k w h => ?_)
  · obtain ⟨c', rfl, h⟩ := h
    obtain ⟨h1, h2⟩ := h
    cases h1
    exact kk _ h2
  · obtain ⟨c', rfl, h⟩ := h
    obtain ⟨h1, h2⟩ := h
    cases h1
theorem w_vVT {idx n q ci : Nat} {fs : List Value} {K : u_T} {N : Nat} {P : (Nat → va_E) → Prop} {PT : Nat → (Nat → va_E) → Prop} (As : List Value) (hc : gCV M.y.cls idx M' n) (hd : gD M pc (.invokevirtual idx) 3 pc') (hci : vwCl[ci]? = some (M'.y.cls, K, N)) (he : c q = .inr (ci, fs)) (hq : q < 95) (con : GW X a M' F' L' C' S' 0 (lv_args 0 (.ref (a q) :: As)) [] c (pVT P PT)) (kk : ∀ w, P w → GW X a M F L (C - C') (S - S') pc' lv st w Post) (kt : ∀ k w, PT k w → Post (.inr k) w) (hh : M.hh = some [])
    (hs : stk = As.reverse ++ .ref (a q) :: st) (hn : As.length = n) (hent : (lg_sl (.ref (a q) :: As)).length ≤ M'.maxL) (hst : (st.map fun v => v.category).sum ≤ 8) (hF : F' + 1 ≤ F) (hL : 8 + (M'.maxL + 11) + L' ≤ L) (hC : C' ≤ C) (hS : S' ≤ S) : GW X a M F L C S pc lv stk c Post := by
  subst hs
  refine g_callV hc hd hci (wl_get hq he) hn con hent hst hF hL hC hS (fun v w h => ?_) (fun k w h => ?_)
  · obtain ⟨c', rfl, h⟩ := h
    rcases h with ⟨h1, h2⟩ | ⟨k, h1, h2⟩
    · cases h1
      exact kk _ h2
    · cases h1
  · obtain ⟨c', rfl, h⟩ := h
    rcases h with ⟨h1, h2⟩ | ⟨k', h1, h2⟩
    · cases h1
    · cases h1
      exact ⟨hh, c', rfl, kt k c' h2⟩
theorem w_vI {idx n q ci : Nat} {fs : List Value} {K : u_T} {N : Nat} {P : Int32 → (Nat → va_E) → Prop} (As : List Value) (hc : gCV M.y.cls idx M' n) (hd : gD M pc (.invokevirtual idx) 3 pc') (hci : vwCl[ci]? = some (M'.y.cls, K, N)) (he : c q = .inr (ci, fs)) (hq : q < 95) (con : GW X a M' F' L' C' S' 0 (lv_args 0 (.ref (a q) :: As)) [] c (pI P)) (kk : ∀ x w, P x w → GW X a M F L (C - C') (S - S') pc' lv (.int x :: st) w Post)
    (hs : stk = As.reverse ++ .ref (a q) :: st) (hn : As.length = n) (hent : (lg_sl (.ref (a q) :: As)).length ≤ M'.maxL) (hst : (st.map fun v => v.category).sum ≤ 8) (hF : F' + 1 ≤ F) (hL : 8 + (M'.maxL + 11) + L' ≤ L) (hC : C' ≤ C) (hS : S' ≤ S) : GW X a M F L C S pc lv stk c Post := by
  subst hs
  refine g_callV hc hd hci (wl_get hq he) hn con hent hst hF hL hC hS (fun v w h => ?_) (fun k w h => ?_)
  · obtain ⟨c', rfl, h⟩ := h
    obtain ⟨x, h1, h2⟩ := h
    cases h1
    exact kk x _ h2
  · obtain ⟨c', rfl, h⟩ := h
    obtain ⟨x, h1, h2⟩ := h
    cases h1
theorem w_vIT {idx n q ci : Nat} {fs : List Value} {K : u_T} {N : Nat} {P : Int32 → (Nat → va_E) → Prop} {PT : Nat → (Nat → va_E) → Prop} (As : List Value) (hc : gCV M.y.cls idx M' n) (hd : gD M pc (.invokevirtual idx) 3 pc') (hci : vwCl[ci]? = some (M'.y.cls, K, N)) (he : c q = .inr (ci, fs)) (hq : q < 95) (con : GW X a M' F' L' C' S' 0 (lv_args 0 (.ref (a q) :: As)) [] c (pIT P PT)) (kk : ∀ x w, P x w → GW X a M F L (C - C') (S - S') pc' lv (.int x :: st) w Post) (kt : ∀ k w, PT k w → Post (.inr k) w) (hh : M.hh = some [])
    (hs : stk = As.reverse ++ .ref (a q) :: st) (hn : As.length = n) (hent : (lg_sl (.ref (a q) :: As)).length ≤ M'.maxL) (hst : (st.map fun v => v.category).sum ≤ 8) (hF : F' + 1 ≤ F) (hL : 8 + (M'.maxL + 11) + L' ≤ L) (hC : C' ≤ C) (hS : S' ≤ S) : GW X a M F L C S pc lv stk c Post := by
  subst hs
  refine g_callV hc hd hci (wl_get hq he) hn con hent hst hF hL hC hS (fun v w h => ?_) (fun k w h => ?_)
  · obtain ⟨c', rfl, h⟩ := h
    rcases h with ⟨x, h1, h2⟩ | ⟨k, h1, h2⟩
    · cases h1
      exact kk x _ h2
    · cases h1
  · obtain ⟨c', rfl, h⟩ := h
    rcases h with ⟨x, h1, h2⟩ | ⟨k', h1, h2⟩
    · cases h1
    · cases h1
      exact ⟨hh, c', rfl, kt k c' h2⟩
theorem w_vJ {idx n q ci : Nat} {fs : List Value} {K : u_T} {N : Nat} {P : Int64 → (Nat → va_E) → Prop} (As : List Value) (hc : gCV M.y.cls idx M' n) (hd : gD M pc (.invokevirtual idx) 3 pc') (hci : vwCl[ci]? = some (M'.y.cls, K, N)) (he : c q = .inr (ci, fs)) (hq : q < 95) (con : GW X a M' F' L' C' S' 0 (lv_args 0 (.ref (a q) :: As)) [] c (pJ P)) (kk : ∀ x w, P x w → GW X a M F L (C - C') (S - S') pc' lv (.long x :: st) w Post)
    (hs : stk = As.reverse ++ .ref (a q) :: st) (hn : As.length = n) (hent : (lg_sl (.ref (a q) :: As)).length ≤ M'.maxL) (hst : (st.map fun v => v.category).sum ≤ 8) (hF : F' + 1 ≤ F) (hL : 8 + (M'.maxL + 11) + L' ≤ L) (hC : C' ≤ C) (hS : S' ≤ S) : GW X a M F L C S pc lv stk c Post := by
  subst hs
  refine g_callV hc hd hci (wl_get hq he) hn con hent hst hF hL hC hS (fun v w h => ?_) (fun k w h => ?_)
  · obtain ⟨c', rfl, h⟩ := h
    obtain ⟨x, h1, h2⟩ := h
    cases h1
    exact kk x _ h2
  · obtain ⟨c', rfl, h⟩ := h
    obtain ⟨x, h1, h2⟩ := h
    cases h1
theorem w_vJT {idx n q ci : Nat} {fs : List Value} {K : u_T} {N : Nat} {P : Int64 → (Nat → va_E) → Prop} {PT : Nat → (Nat → va_E) → Prop} (As : List Value) (hc : gCV M.y.cls idx M' n) (hd : gD M pc (.invokevirtual idx) 3 pc') (hci : vwCl[ci]? = some (M'.y.cls, K, N)) (he : c q = .inr (ci, fs)) (hq : q < 95) (con : GW X a M' F' L' C' S' 0 (lv_args 0 (.ref (a q) :: As)) [] c (pJT P PT)) (kk : ∀ x w, P x w → GW X a M F L (C - C') (S - S') pc' lv (.long x :: st) w Post) (kt : ∀ k w, PT k w → Post (.inr k) w) (hh : M.hh = some [])
    (hs : stk = As.reverse ++ .ref (a q) :: st) (hn : As.length = n) (hent : (lg_sl (.ref (a q) :: As)).length ≤ M'.maxL) (hst : (st.map fun v => v.category).sum ≤ 8) (hF : F' + 1 ≤ F) (hL : 8 + (M'.maxL + 11) + L' ≤ L) (hC : C' ≤ C) (hS : S' ≤ S) : GW X a M F L C S pc lv stk c Post := by
  subst hs
  refine g_callV hc hd hci (wl_get hq he) hn con hent hst hF hL hC hS (fun v w h => ?_) (fun k w h => ?_)
  · obtain ⟨c', rfl, h⟩ := h
    rcases h with ⟨x, h1, h2⟩ | ⟨k, h1, h2⟩
    · cases h1
      exact kk x _ h2
    · cases h1
  · obtain ⟨c', rfl, h⟩ := h
    rcases h with ⟨x, h1, h2⟩ | ⟨k', h1, h2⟩
    · cases h1
    · cases h1
      exact ⟨hh, c', rfl, kt k c' h2⟩
theorem w_sV {idx n : Nat} {P : (Nat → va_E) → Prop} (As : List Value) (hc : gCS M.y.cls idx M' n) (hd : gD M pc (.invokestatic idx) 3 pc') (con : GW X a M' F' L' C' S' 0 (lv_args 0 (As)) [] c (pV P)) (kk : ∀ w, P w → GW X a M F L (C - C') (S - S') pc' lv st w Post)
    (hs : stk = As.reverse ++  st) (hn : As.length = n) (hent : (lg_sl (As)).length ≤ M'.maxL) (hst : (st.map fun v => v.category).sum ≤ 8) (hF : F' + 1 ≤ F) (hL : 8 + (M'.maxL + 11) + L' ≤ L) (hC : C' ≤ C) (hS : S' ≤ S) : GW X a M F L C S pc lv stk c Post := by
  subst hs
  refine g_callS hc hd hn con hent hst hF hL hC hS (fun v w h => ?_) (fun k w h => ?_)
  · obtain ⟨c', rfl, h⟩ := h
    obtain ⟨h1, h2⟩ := h
    cases h1
    exact kk _ h2
  · obtain ⟨c', rfl, h⟩ := h
    obtain ⟨h1, h2⟩ := h
    cases h1
theorem w_sVT {idx n : Nat} {P : (Nat → va_E) → Prop} {PT : Nat → (Nat → va_E) → Prop} (As : List Value) (hc : gCS M.y.cls idx M' n) (hd : gD M pc (.invokestatic idx) 3 pc') (con : GW X a M' F' L' C' S' 0 (lv_args 0 (As)) [] c (pVT P PT)) (kk : ∀ w, P w → GW X a M F L (C - C') (S - S') pc' lv st w Post) (kt : ∀ k w, PT k w → Post (.inr k) w) (hh : M.hh = some [])
    (hs : stk = As.reverse ++  st) (hn : As.length = n) (hent : (lg_sl (As)).length ≤ M'.maxL) (hst : (st.map fun v => v.category).sum ≤ 8) (hF : F' + 1 ≤ F) (hL : 8 + (M'.maxL + 11) + L' ≤ L) (hC : C' ≤ C) (hS : S' ≤ S) : GW X a M F L C S pc lv stk c Post := by
  subst hs
  refine g_callS hc hd hn con hent hst hF hL hC hS (fun v w h => ?_) (fun k w h => ?_)
  · obtain ⟨c', rfl, h⟩ := h
    rcases h with ⟨h1, h2⟩ | ⟨k, h1, h2⟩
    · cases h1
      exact kk _ h2
    · cases h1
  · obtain ⟨c', rfl, h⟩ := h
    rcases h with ⟨h1, h2⟩ | ⟨k', h1, h2⟩
    · cases h1
    · cases h1
      exact ⟨hh, c', rfl, kt k c' h2⟩
theorem w_sI {idx n : Nat} {P : Int32 → (Nat → va_E) → Prop} (As : List Value) (hc : gCS M.y.cls idx M' n) (hd : gD M pc (.invokestatic idx) 3 pc') (con : GW X a M' F' L' C' S' 0 (lv_args 0 (As)) [] c (pI P)) (kk : ∀ x w, P x w → GW X a M F L (C - C') (S - S') pc' lv (.int x :: st) w Post)
    (hs : stk = As.reverse ++  st) (hn : As.length = n) (hent : (lg_sl (As)).length ≤ M'.maxL) (hst : (st.map fun v => v.category).sum ≤ 8) (hF : F' + 1 ≤ F) (hL : 8 + (M'.maxL + 11) + L' ≤ L) (hC : C' ≤ C) (hS : S' ≤ S) : GW X a M F L C S pc lv stk c Post := by
  subst hs
  refine g_callS hc hd hn con hent hst hF hL hC hS (fun v w h => ?_) (fun k w h => ?_)
  · obtain ⟨c', rfl, h⟩ := h
    obtain ⟨x, h1, h2⟩ := h
    cases h1
    exact kk x _ h2
  · obtain ⟨c', rfl, h⟩ := h
    obtain ⟨x, h1, h2⟩ := h
    cases h1
theorem w_sIT {idx n : Nat} {P : Int32 → (Nat → va_E) → Prop} {PT : Nat → (Nat → va_E) → Prop} (As : List Value) (hc : gCS M.y.cls idx M' n) (hd : gD M pc (.invokestatic idx) 3 pc') (con : GW X a M' F' L' C' S' 0 (lv_args 0 (As)) [] c (pIT P PT)) (kk : ∀ x w, P x w → GW X a M F L (C - C') (S - S') pc' lv (.int x :: st) w Post) (kt : ∀ k w, PT k w → Post (.inr k) w) (hh : M.hh = some [])
    (hs : stk = As.reverse ++  st) (hn : As.length = n) (hent : (lg_sl (As)).length ≤ M'.maxL) (hst : (st.map fun v => v.category).sum ≤ 8) (hF : F' + 1 ≤ F) (hL : 8 + (M'.maxL + 11) + L' ≤ L) (hC : C' ≤ C) (hS : S' ≤ S) : GW X a M F L C S pc lv stk c Post := by
  subst hs
  refine g_callS hc hd hn con hent hst hF hL hC hS (fun v w h => ?_) (fun k w h => ?_)
  · obtain ⟨c', rfl, h⟩ := h
    rcases h with ⟨x, h1, h2⟩ | ⟨k, h1, h2⟩
    · cases h1
      exact kk x _ h2
    · cases h1
  · obtain ⟨c', rfl, h⟩ := h
    rcases h with ⟨x, h1, h2⟩ | ⟨k', h1, h2⟩
    · cases h1
    · cases h1
      exact ⟨hh, c', rfl, kt k c' h2⟩
theorem w_sJ {idx n : Nat} {P : Int64 → (Nat → va_E) → Prop} (As : List Value) (hc : gCS M.y.cls idx M' n) (hd : gD M pc (.invokestatic idx) 3 pc') (con : GW X a M' F' L' C' S' 0 (lv_args 0 (As)) [] c (pJ P)) (kk : ∀ x w, P x w → GW X a M F L (C - C') (S - S') pc' lv (.long x :: st) w Post)
    (hs : stk = As.reverse ++  st) (hn : As.length = n) (hent : (lg_sl (As)).length ≤ M'.maxL) (hst : (st.map fun v => v.category).sum ≤ 8) (hF : F' + 1 ≤ F) (hL : 8 + (M'.maxL + 11) + L' ≤ L) (hC : C' ≤ C) (hS : S' ≤ S) : GW X a M F L C S pc lv stk c Post := by
  subst hs
  refine g_callS hc hd hn con hent hst hF hL hC hS (fun v w h => ?_) (fun k w h => ?_)
  · obtain ⟨c', rfl, h⟩ := h
    obtain ⟨x, h1, h2⟩ := h
    cases h1
    exact kk x _ h2
  · obtain ⟨c', rfl, h⟩ := h
    obtain ⟨x, h1, h2⟩ := h
    cases h1
theorem w_sJT {idx n : Nat} {P : Int64 → (Nat → va_E) → Prop} {PT : Nat → (Nat → va_E) → Prop} (As : List Value) (hc : gCS M.y.cls idx M' n) (hd : gD M pc (.invokestatic idx) 3 pc') (con : GW X a M' F' L' C' S' 0 (lv_args 0 (As)) [] c (pJT P PT)) (kk : ∀ x w, P x w → GW X a M F L (C - C') (S - S') pc' lv (.long x :: st) w Post) (kt : ∀ k w, PT k w → Post (.inr k) w) (hh : M.hh = some [])
    (hs : stk = As.reverse ++  st) (hn : As.length = n) (hent : (lg_sl (As)).length ≤ M'.maxL) (hst : (st.map fun v => v.category).sum ≤ 8) (hF : F' + 1 ≤ F) (hL : 8 + (M'.maxL + 11) + L' ≤ L) (hC : C' ≤ C) (hS : S' ≤ S) : GW X a M F L C S pc lv stk c Post := by
  subst hs
  refine g_callS hc hd hn con hent hst hF hL hC hS (fun v w h => ?_) (fun k w h => ?_)
  · obtain ⟨c', rfl, h⟩ := h
    rcases h with ⟨x, h1, h2⟩ | ⟨k, h1, h2⟩
    · cases h1
      exact kk x _ h2
    · cases h1
  · obtain ⟨c', rfl, h⟩ := h
    rcases h with ⟨x, h1, h2⟩ | ⟨k', h1, h2⟩
    · cases h1
    · cases h1
      exact ⟨hh, c', rfl, kt k c' h2⟩
theorem w_iV {idx n q ci : Nat} {fs : List Value} {K : u_T} {N : Nat} {P : (Nat → va_E) → Prop} (As : List Value) (hc : gCI M.y.cls idx M' n) (hd : gD M pc (.invokespecial idx) 3 pc') (con : GW X a M' F' L' C' S' 0 (lv_args 0 (.ref (a q) :: As)) [] c (pV P)) (kk : ∀ w, P w → GW X a M F L (C - C') (S - S') pc' lv st w Post)
    (hs : stk = As.reverse ++ .ref (a q) :: st) (hn : As.length = n) (hent : (lg_sl (.ref (a q) :: As)).length ≤ M'.maxL) (hst : (st.map fun v => v.category).sum ≤ 8) (hF : F' + 1 ≤ F) (hL : 8 + (M'.maxL + 11) + L' ≤ L) (hC : C' ≤ C) (hS : S' ≤ S) : GW X a M F L C S pc lv stk c Post := by
  subst hs
  refine g_callI hc hd hn con hent hst hF hL hC hS (fun v w h => ?_) (fun k w h => ?_)
  · obtain ⟨c', rfl, h⟩ := h
    obtain ⟨h1, h2⟩ := h
    cases h1
    exact kk _ h2
  · obtain ⟨c', rfl, h⟩ := h
    obtain ⟨h1, h2⟩ := h
    cases h1
theorem w_mmax {idx : Nat} {x y : Int32} (hl : Cond.methodLink M.y.cls idx Lib.Math.max.name ∈ gTW) (hd : gD M pc (.invokestatic idx) 3 pc') (hF : 1 ≤ F) (hst : (st.map fun v => v.category).sum + 13 ≤ L) (kk : GW X a M F L C S pc' lv (.int (if x < y then y else x) :: st) c Post) : GW X a M F L C S pc lv (.int y :: .int x :: st) c Post := g_mmax hl hd hF hst kk
theorem w_mmin {idx : Nat} {x y : Int32} (hl : Cond.methodLink M.y.cls idx Lib.Math.min.name ∈ gTW) (hd : gD M pc (.invokestatic idx) 3 pc') (hF : 1 ≤ F) (hst : (st.map fun v => v.category).sum + 13 ≤ L) (kk : GW X a M F L C S pc' lv (.int (if y < x then y else x) :: st) c Post) : GW X a M F L C S pc lv (.int y :: .int x :: st) c Post := g_mmin hl hd hF hst kk
theorem w_get1 {idx : Nat} (hl : gLk M.y.cls idx "SelfArranger" "FIRST_COLUMN" "[I") (hd : gD M pc (.getstatic idx) 3 pc') (kk : GW X a M F L C S pc' lv (.ref X.t1 :: st) c Post) : GW X a M F L C S pc lv st c Post := g_get1 hl hd kk
theorem w_get2 {idx : Nat} (hl : gLk M.y.cls idx "SelfArranger" "SECOND_COLUMN" "[I") (hd : gD M pc (.getstatic idx) 3 pc') (kk : GW X a M F L C S pc' lv (.ref X.t2 :: st) c Post) : GW X a M F L C S pc lv st c Post := g_get2 hl hd kk
theorem w_ald1 {j : Nat} {i : Int32} (hd : gD M pc .iaload 1 pc') (hi : i = nI j) (hj : j < 9) (kk : GW X a M F L C S pc' lv (.int (([0, 1, 2, 0, 0, 1, 1, 2, 2] : List Int32).getD j 0) :: st) c Post) : GW X a M F L C S pc lv (.int i :: .ref X.t1 :: st) c Post := g_ald1 hd hi hj kk
theorem w_ald2 {j : Nat} {i : Int32} (hd : gD M pc .iaload 1 pc') (hi : i = nI j) (hj : j < 9) (kk : GW X a M F L C S pc' lv (.int (([-1, -1, -1, 1, 2, 0, 2, 0, 1] : List Int32).getD j 0) :: st) c Post) : GW X a M F L C S pc lv (.int i :: .ref X.t2 :: st) c Post := g_ald2 hd hi hj kk
theorem w_sald {j : Nat} {i : Int32} (hd : gD M pc .iaload 1 pc') (hi : i = nI j) (hj : j < X.sl) (hn : X.sl < 2 ^ 31) (kk : GW X a M F L C S pc' lv (.int (X.sx j) :: st) c Post) : GW X a M F L C S pc lv (.int i :: .ref X.sb :: st) c Post := g_sald hd hi hj hn kk
theorem w_slen (hd : gD M pc .arraylength 1 pc') (kk : GW X a M F L C S pc' lv (.int (nI X.sl) :: st) c Post) : GW X a M F L C S pc lv (.ref X.sb :: st) c Post := g_slen hd kk
-- an answer that is known, a world that is as it was
def eI (v : Int32) (c : Nat → va_E) : Int32 → (Nat → va_E) → Prop := fun x w => v = x ∧ c = w
def eJ (v : Int64) (c : Nat → va_E) : Int64 → (Nat → va_E) → Prop := fun x w => v = x ∧ c = w
def eV (c : Nat → va_E) : (Nat → va_E) → Prop := fun w => c = w
end GWR
end
section
theorem gqL {a b : Nat} (h : Nat.blt a b = true) : a < b := (Nat.blt_eq).mp h
/-! Pure: insertion from the right end, on reversed lists; sorted lists; filters -/
-- r goes behind the last element that isn't greater; T is the reverse of the list
def insL (gt : Nat → Nat → Bool) (r : Nat) : List Nat → List Nat
  | [] => [r]
  | x :: t => if gt x r then x :: insL gt r t else r :: x :: t
-- the sorted list of the rows l, reversed
def srt (gt : Nat → Nat → Bool) (l : List Nat) : List Nat := l.foldl (fun T r => insL gt r T) []
-- a strict weak order
def swo (gt : Nat → Nat → Bool) : Prop := (∀ a b, gt a b = true → gt b a = false) ∧ ∀ a b c, gt a b = false → gt b c = false → gt a c = false
def dec (gt : Nat → Nat → Bool) (T : List Nat) : Prop := T.Pairwise (fun a b => gt b a = false)
theorem insL_mem {gt : Nat → Nat → Bool} {r y : Nat} : ∀ {T : List Nat}, y ∈ insL gt r T ↔ y = r ∨ y ∈ T
  | [] => by simp [insL]
  | x :: t => by
    unfold insL
    split
    · simp only [List.mem_cons, insL_mem (T := t)]
      constructor
      · rintro (h | h | h)
        · exact Or.inr (Or.inl h)
        · exact Or.inl h
        · exact Or.inr (Or.inr h)
      · rintro (h | h | h)
        · exact Or.inr (Or.inl h)
        · exact Or.inl h
        · exact Or.inr (Or.inr h)
    · simp only [List.mem_cons]
theorem insL_len {gt : Nat → Nat → Bool} {r : Nat} : ∀ {T : List Nat}, (insL gt r T).length = T.length + 1
  | [] => rfl
  | x :: t => by
    unfold insL
    split
    · simp [insL_len (T := t)]
    · simp
theorem insL_dec {gt : Nat → Nat → Bool} (hg : swo gt) {r : Nat} : ∀ {T : List Nat}, dec gt T → dec gt (insL gt r T)
  | [], _ => by simp [insL, dec]
  | x :: t, h => by
    obtain ⟨h1, h2⟩ := List.pairwise_cons.mp h
    unfold insL
    split
    · rename_i hx
      refine List.pairwise_cons.mpr ⟨fun y hy => ?_, insL_dec hg h2⟩
      rcases insL_mem.mp hy with rfl | hy
      · exact hg.1 _ _ hx
      · exact h1 y hy
    · rename_i hx
      have hx : gt x r = false := by simpa using hx
      refine List.pairwise_cons.mpr ⟨fun y hy => ?_, h⟩
      rcases List.mem_cons.mp hy with rfl | hy
      · exact hx
      · exact hg.2 _ _ _ (h1 y hy) hx
theorem insL_filter {gt : Nat → Nat → Bool} (hg : swo gt) {p : Nat → Bool} {r : Nat} : ∀ {T : List Nat}, dec gt T → (insL gt r T).filter p = if p r then insL gt r (T.filter p) else T.filter p
  | [], _ => by
    by_cases hp : p r <;> simp [insL, hp]
  | x :: t, h => by
    obtain ⟨h1, h2⟩ := List.pairwise_cons.mp h
    by_cases hx : gt x r = true
    · have ih := insL_filter hg (p := p) (r := r) h2
      by_cases hpx : p x = true
      · rw [insL, if_pos hx, List.filter_cons_of_pos hpx, ih, List.filter_cons_of_pos hpx]
        by_cases hp : p r = true
        · rw [if_pos hp, if_pos hp, insL, if_pos hx]
        · rw [if_neg hp, if_neg hp]
      · rw [insL, if_pos hx, List.filter_cons_of_neg hpx, ih, List.filter_cons_of_neg hpx]
    · rw [insL, if_neg hx]
      have hall : ∀ y ∈ x :: t, gt y r = false := by
        intro y hy
        rcases List.mem_cons.mp hy with rfl | hy
        · simpa using hx
        · exact hg.2 _ _ _ (h1 y hy) (by simpa using hx)
      have hst : ∀ l : List Nat, (∀ y ∈ l, gt y r = false) → insL gt r l = r :: l := by
        intro l hl
        cases l with
        | nil => rfl
        | cons y t => rw [insL, if_neg (by simp [hl y List.mem_cons_self])]
      by_cases hp : p r = true
      · rw [List.filter_cons_of_pos hp, if_pos hp, hst _ (fun y hy => hall y (List.mem_filter.mp hy).1)]
      · rw [List.filter_cons_of_neg hp, if_neg hp]
theorem srt_go {gt : Nat → Nat → Bool} (hg : swo gt) {p : Nat → Bool} : ∀ (l T : List Nat), dec gt T →
    dec gt (l.foldl (fun T r => insL gt r T) T) ∧ (l.foldl (fun T r => insL gt r T) T).filter p = (l.filter p).foldl (fun T r => insL gt r T) (T.filter p) ∧ (l.foldl (fun T r => insL gt r T) T).length = l.length + T.length ∧ ∀ y, y ∈ l.foldl (fun T r => insL gt r T) T ↔ y ∈ l ∨ y ∈ T
  | [], T, h => ⟨h, rfl, by simp, by simp⟩
  | r :: l, T, h => by
    obtain ⟨a, b, c, d⟩ := srt_go hg (p := p) l (insL gt r T) (insL_dec hg h)
    refine ⟨a, ?_, ?_, ?_⟩
    · rw [List.foldl_cons, b, insL_filter hg h]
      by_cases hp : p r = true
      · rw [if_pos hp, List.filter_cons_of_pos hp, List.foldl_cons]
      · rw [if_neg hp, List.filter_cons_of_neg hp]
    · rw [List.foldl_cons, c, insL_len]
      simp
      omega
    · intro y
      rw [List.foldl_cons, d y, insL_mem, List.mem_cons]
      constructor
      · rintro (h | h | h)
        · exact Or.inl (Or.inr h)
        · exact Or.inl (Or.inl h)
        · exact Or.inr h
      · rintro ((h | h) | h)
        · exact Or.inr (Or.inl h)
        · exact Or.inl h
        · exact Or.inr (Or.inr h)
theorem srt_dec {gt : Nat → Nat → Bool} (hg : swo gt) (l : List Nat) : dec gt (srt gt l) := (srt_go hg (p := fun _ => true) l [] List.Pairwise.nil).1
theorem srt_filter {gt : Nat → Nat → Bool} (hg : swo gt) (p : Nat → Bool) (l : List Nat) : (srt gt l).filter p = srt gt (l.filter p) := (srt_go hg l [] List.Pairwise.nil).2.1
theorem srt_len {gt : Nat → Nat → Bool} (hg : swo gt) (l : List Nat) : (srt gt l).length = l.length := (srt_go hg (p := fun _ => true) l [] List.Pairwise.nil).2.2.1
theorem srt_mem {gt : Nat → Nat → Bool} (hg : swo gt) (l : List Nat) (y : Nat) : y ∈ srt gt l ↔ y ∈ l := by
  have := (srt_go hg (p := fun _ => true) l [] List.Pairwise.nil).2.2.2 y
  rw [srt]
  simpa using this
theorem srt_snoc {gt : Nat → Nat → Bool} (l : List Nat) (r : Nat) : srt gt (l ++ [r]) = insL gt r (srt gt l) := by simp [srt]
-- a predicate that goes down along the list: its head part is its filter
theorem take_filter {a : Nat → Bool} : ∀ {S : List Nat}, S.Pairwise (fun x y => a y = true → a x = true) → S.takeWhile a = S.filter a ∧ S.dropWhile a = S.filter (fun x => !a x)
  | [], _ => ⟨rfl, rfl⟩
  | x :: t, h => by
    obtain ⟨h1, h2⟩ := List.pairwise_cons.mp h
    obtain ⟨i1, i2⟩ := take_filter h2
    by_cases hx : a x = true
    · simp [List.takeWhile_cons, List.dropWhile_cons, hx, i1, i2]
    · have hn : ∀ y ∈ t, a y = false := fun y hy => by
        cases hay : a y with
        | false => rfl
        | true => exact absurd (h1 y hy hay) hx
      have hx' : a x = false := by simpa using hx
      have e1 : t.filter a = [] := List.filter_eq_nil_iff.mpr (fun y hy => by simp [hn y hy])
      have e2 : t.filter (fun x => !a x) = t := List.filter_eq_self.mpr (fun y hy => by simp [hn y hy])
      simp [List.takeWhile_cons, List.dropWhile_cons, hx', e1, e2]

-- the array holds the list from place p on
def lay (f : Nat → Int32) (p : Nat) (l : List Nat) : Prop := ∀ i, i < l.length → f (p + i) = nI (l.getD i 0)
theorem lay_nil {f : Nat → Int32} {p : Nat} : lay f p [] := fun i h => by simp at h
theorem lay_app {f : Nat → Int32} {p : Nat} {l1 l2 : List Nat} : lay f p (l1 ++ l2) ↔ lay f p l1 ∧ lay f (p + l1.length) l2 := by
  constructor
  · intro h
    refine ⟨fun i hi => ?_, fun i hi => ?_⟩
    · rw [h i (by rw [List.length_append]; omega)]
      simp [List.getD_eq_getElem?_getD, List.getElem?_append_left hi]
    · rw [Nat.add_assoc, h (l1.length + i) (by rw [List.length_append]; omega)]
      simp [List.getD_eq_getElem?_getD, List.getElem?_append_right]
  · rintro ⟨h1, h2⟩ i hi
    rw [List.length_append] at hi
    by_cases h : i < l1.length
    · rw [h1 i h]
      simp [List.getD_eq_getElem?_getD, List.getElem?_append_left h]
    · have e : i = l1.length + (i - l1.length) := by omega
      rw [e, ← Nat.add_assoc, h2 (i - l1.length) (by omega)]
      simp [List.getD_eq_getElem?_getD, List.getElem?_append_right]
theorem lay_one {f : Nat → Int32} {p x : Nat} : lay f p [x] ↔ f p = nI x := by
  constructor
  · intro h
    exact h 0 (by simp)
  · intro h i hi
    have : i = 0 := by simpa using hi
    subst this
    simpa using h
theorem lay_cons {f : Nat → Int32} {p x : Nat} {l : List Nat} : lay f p (x :: l) ↔ f p = nI x ∧ lay f (p + 1) l := by
  rw [show x :: l = [x] ++ l from rfl, lay_app, lay_one]
  rfl
theorem lay_upd {f : Nat → Int32} {p k : Nat} {l : List Nat} {x : Int32} (h : lay f p l) (hk : k < p ∨ p + l.length ≤ k) : lay (upd f k x) p l := fun i hi => by
  rw [pk_un (by omega)]
  exact h i hi
theorem lay_get {f : Nat → Int32} {p : Nat} {l : List Nat} (h : lay f p l) {i : Nat} (hi : i < l.length) : f (p + i) = nI (l.getD i 0) := h i hi
theorem insL_split {gt : Nat → Nat → Bool} {r : Nat} : ∀ {D E : List Nat}, (∀ x ∈ D, gt x r = true) → (∀ e E', E = e :: E' → gt e r = false) → insL gt r (D ++ E) = D ++ r :: E
  | [], [], _, _ => rfl
  | [], e :: E', _, h => by
    rw [List.nil_append, insL, if_neg (by rw [h e E' rfl]; decide)]
    rfl
  | x :: D, E, h1, h2 => by
    rw [List.cons_append, insL, if_pos (h1 x List.mem_cons_self), insL_split (fun y hy => h1 y (List.mem_cons_of_mem _ hy)) h2]
    rfl
theorem getD_mem {l : List Nat} {i : Nat} (h : i < l.length) : l.getD i 0 ∈ l := by
  rw [List.getD_eq_getElem?_getD, List.getElem?_eq_getElem h]
  simp
theorem take_snoc {l : List Nat} {k : Nat} (h : k < l.length) : l.take (k + 1) = l.take k ++ [l.getD k 0] := by
  rw [List.take_succ, List.getElem?_eq_getElem h]
  simp [List.getD_eq_getElem?_getD, List.getElem?_eq_getElem h]
theorem drop_cons {l : List Nat} {k : Nat} (h : k < l.length) : l.drop k = l.getD k 0 :: l.drop (k + 1) := by
  rw [List.drop_eq_getElem_cons h]
  simp [List.getD_eq_getElem?_getD, List.getElem?_eq_getElem h]
end
section
/-! The class Table (and the JDK's compare, SelfArranger.groupsOfFour): what each method answers -/
abbrev aI (X : gX) (n : Nat) (f : Nat → Int32) : va_E := .inl (X.cI, n, .inl f)
abbrev aZ (X : gX) (n : Nat) (f : Nat → Int32) : va_E := .inl (X.cZ, n, .inl f)
abbrev oT (a : Nat → Nat) (ins rt : Nat) : va_E := .inr (1, [.ref (a 2), .ref (a 3), .int (nI ins), .int (nI rt)])
def cmpI (x y : Int32) : Int32 := if x < y then -1 else if x = y then 0 else 1
def bI (b : Bool) : Int32 := if b then 1 else 0
-- a row's value in a column; the column -1 counts for nothing
def colV (v : Nat → Int32) (r : Nat) (k : Int32) : Int32 := if k = -1 then 0 else v (3 * r + k.toNatClampNeg)
-- row x comes behind row y by the columns f, g
def gtv (v : Nat → Int32) (f g : Int32) (x y : Nat) : Bool := decide (colV v y f < colV v x f) || (decide (colV v x f = colV v y f) && decide (colV v y g < colV v x g))
def isCol (k : Int32) : Prop := k = -1 ∨ ∃ j : Nat, j < 3 ∧ k = nI j
def fours (n : Nat) : Nat := (n + 3) / 4
def leavesOf (n : Nat) : Nat := if fours n = 0 then 1 else fours n
-- the levels above n leaves (at most 16), and all nodes
def hgt (n : Nat) : Nat := if n ≤ 1 then 0 else if n ≤ 4 then 1 else 2
def szo (n : Nat) : Nat := if n ≤ 1 then n else if n ≤ 4 then n + 1 else n + fours n + 1
-- the first entry of an index, k rows looked at
def feGo (h : Nat → Int32) (gt : Nat → Nat → Bool) : Nat → Option Nat
  | 0 => none
  | k + 1 => if h k = 0 then feGo h gt k else match feGo h gt k with
    | none => some k
    | some l => if gt l k then some k else some l
def oI : Option Nat → Int32
  | none => -1
  | some r => nI r
-- the cells are as they were, but for those at the places l
def same (c w : Nat → va_E) (l : List Nat) : Prop := ∀ k, k ∉ l → w k = c k
theorem nIinc (j : Nat) : nI j + Int32.ofInt 1 = nI (j + 1) := nI_1 j
theorem nIdec (j : Nat) : nI (j + 1) + Int32.ofInt (-1) = nI j := pk_m1 j
theorem va_s {α : Type} {f : Nat → α} {k : Nat} {v : α} : va_up f k v k = v := by simp [va_up]
theorem va_n {α : Type} {f : Nat → α} {k j : Nat} {v e : α} (h : j ≠ k) (he : f j = e) : va_up f k v j = e := by simp [va_up, h, he]
theorem ix3 (r k : Nat) : nI r * 3 + nI k = nI (3 * r + k) := by
  rw [show (3 : Int32) = nI 3 from rfl, pk_mul, nI_add, Nat.mul_comm]
theorem nI3 {n : Nat} (h : n < 1000) : (nI n + 4 - 1) / 4 = nI (fours n) := by
  have e1 : nI n + 4 - 1 = nI (n + 3) := by
    rw [show (4 : Int32) = nI 4 from rfl, nI_add, show n + 4 = (n + 3) + 1 from rfl, nI_pred]
  rw [e1, show (4 : Int32) = nI 4 from rfl, pk_div (by omega) (by decide) (by decide)]
  rfl
theorem nI_neg {n : Nat} (h : n < 2 ^ 31) : ¬ nI n = -1 := fun e => by
  have := nI_pos h
  rw [e] at this
  exact this (by decide)
theorem hgt_s {n m : Nat} (h : hgt n = m + 1) (hn : n ≤ 16) : 1 < n ∧ hgt (fours n) = m ∧ fours n ≤ 16 ∧ szo n = n + szo (fours n) := by
  unfold hgt szo fours at *
  split at h
  · omega
  · split at h
    · have : (n + 3) / 4 = 1 := by omega
      rw [this]
      refine ⟨by omega, by simp; omega, by omega, ?_⟩
      rw [if_neg (by omega), if_pos (by omega)]
      simp
    · have h1 : 2 ≤ (n + 3) / 4 ∧ (n + 3) / 4 ≤ 4 := by omega
      refine ⟨by omega, ?_, by omega, ?_⟩
      · rw [if_neg (by omega), if_pos (by omega)]; omega
      · rw [if_neg (by omega), if_neg (by omega), if_neg (by omega), if_pos (by omega)]
        omega
theorem hgt_z {n : Nat} (h : hgt n = 0) : n ≤ 1 := by
  unfold hgt at h
  split at h
  · assumption
  · split at h <;> omega
theorem leaves_le {n : Nat} (h : n ≤ 64) : leavesOf n ≤ 16 ∧ 1 ≤ leavesOf n := by
  unfold leavesOf fours
  split <;> omega
theorem hgt_le (n : Nat) : hgt n ≤ 2 := by
  unfold hgt
  split
  · omega
  · split <;> omega
section TB
variable {X : gX} {a : Nat → Nat} {c : Nat → va_E} {ins rt : Nat} {v h : Nat → Int32}
theorem t_groupsOfFour {n : Nat} (hn : n < 1000) : GW X a m_A_groupsOfFour 0 0 0 0 0 (lv_args 0 [.int (nI n)]) [] c (pI (eI (nI (fours n)) c)) := by
  refine w_iload_n d_A_groupsOfFour_0 rfl ?_
  refine w_iconst 4 d_A_groupsOfFour_1 (by decide) ?_
  refine w_iadd d_A_groupsOfFour_2 ?_
  refine w_iconst 1 d_A_groupsOfFour_3 (by decide) ?_
  refine w_isub d_A_groupsOfFour_4 ?_
  refine w_iconst 4 d_A_groupsOfFour_5 (by decide) ?_
  refine w_idiv d_A_groupsOfFour_6 (by decide) ?_
  exact w_iret d_A_groupsOfFour_7 rfl (⟨_, rfl, (nI3 hn).symm, rfl⟩)
theorem t_compareI {x y : Int32} : GW X a m_J_compare 0 0 0 0 0 (lv_args 0 [.int x, .int y]) [] c (pI (eI (cmpI x y) c)) := by
  refine w_iload_n d_J_compare_0 rfl ?_
  refine w_iload_n d_J_compare_1 rfl ?_
  refine w_icmp_ge 9 d_J_compare_2 (by decide) (fun hc => ?_) (fun hc => ?_)
  · -- taken
    refine w_iload_n d_J_compare_9 rfl ?_
    refine w_iload_n d_J_compare_10 rfl ?_
    refine w_icmp_ne 18 d_J_compare_11 (by decide) (fun hd => ?_) (fun hd => ?_)
    · -- taken
      refine w_iconst 1 d_J_compare_18 (by decide) ?_
      exact w_iret d_J_compare_19 rfl (⟨_, rfl, by unfold cmpI; rw [if_neg (by rw [Int32.not_lt]; exact hc), if_neg hd], rfl⟩)
    · -- not taken
      refine w_iconst 0 d_J_compare_14 (by decide) ?_
      refine w_goto 19 d_J_compare_15 (by decide) ?_
      exact w_iret d_J_compare_19 rfl (⟨_, rfl, by unfold cmpI; rw [if_neg (by rw [Int32.not_lt]; exact hc), if_pos hd], rfl⟩)
  · -- not taken
    refine w_iconst (-1) d_J_compare_5 (by decide) ?_
    refine w_goto 19 d_J_compare_6 (by decide) ?_
    exact w_iret d_J_compare_19 rfl (⟨_, rfl, by unfold cmpI; rw [if_pos (by rw [← Int32.not_le]; exact hc)], rfl⟩)
theorem t_at {r k : Nat} (hT : c 1 = oT a ins rt) (hV : c 2 = aI X 192 v) (hr : r < 64) (hk : k < 3) : GW X a m_T_at 0 0 0 0 0 (lv_args 0 [.ref (a 1), .int (nI r), .int (nI k)]) [] c (pI (eI (v (3 * r + k)) c)) := by
  refine w_aload_n d_T_at_0 rfl ?_
  refine w_getf g_T_9 d_T_at_1 hT rfl (by decide) ?_
  refine w_iload_n d_T_at_4 rfl ?_
  refine w_iconst 3 d_T_at_5 (by decide) ?_
  refine w_imul d_T_at_6 ?_
  refine w_iload_n d_T_at_7 rfl ?_
  refine w_iadd d_T_at_8 ?_
  refine w_iald d_T_at_9 hV (ix3 r k) (by omega) (by decide) (by decide) ?_
  exact w_iret d_T_at_10 rfl (⟨_, rfl, rfl, rfl⟩)
theorem t_put {r k : Nat} {x : Int32} (hT : c 1 = oT a ins rt) (hV : c 2 = aI X 192 v) (hr : r < 64) (hk : k < 3) : GW X a m_T_put 0 0 0 0 0 (lv_args 0 [.ref (a 1), .int (nI r), .int (nI k), .int x]) [] c (pV (eV (va_up c 2 (aI X 192 (upd v (3 * r + k) x))))) := by
  refine w_aload_n d_T_put_0 rfl ?_
  refine w_getf g_T_9 d_T_put_1 hT rfl (by decide) ?_
  refine w_iload_n d_T_put_4 rfl ?_
  refine w_iconst 3 d_T_put_5 (by decide) ?_
  refine w_imul d_T_put_6 ?_
  refine w_iload_n d_T_put_7 rfl ?_
  refine w_iadd d_T_put_8 ?_
  refine w_iload_n d_T_put_9 rfl ?_
  refine w_iast d_T_put_10 hV (ix3 r k) (by omega) (by decide) (by decide) ?_
  exact w_vret d_T_put_11 rfl (⟨rfl, rfl⟩)
theorem t_isFull (hT : c 1 = oT a ins rt) (hi : ins ≤ 64) : GW X a m_T_isFull 0 0 0 0 0 (lv_args 0 [.ref (a 1)]) [] c (pI (eI (bI (decide (ins = 64))) c)) := by
  refine w_aload_n d_T_isFull_0 rfl ?_
  refine w_getf g_T_19 d_T_isFull_1 hT rfl (by decide) ?_
  refine w_bipush 64 d_T_isFull_4 (by decide) ?_
  refine w_icmp_lt 13 d_T_isFull_6 (by decide) (fun hc => ?_) (fun hc => ?_)
  · -- taken
    have h1 : ins < 64 := (nI_ltI (by omega) (by decide)).mp hc
    refine w_iconst 0 d_T_isFull_13 (by decide) ?_
    exact w_zret (by first | exact Or.inl rfl | exact Or.inr rfl) d_T_isFull_14 rfl (⟨_, rfl, by rw [bI, decide_eq_false (by omega)]; rfl, rfl⟩)
  · -- not taken
    have h1 : ¬ ins < 64 := fun z => hc ((nI_ltI (by omega) (by decide)).mpr z)
    refine w_iconst 1 d_T_isFull_9 (by decide) ?_
    refine w_goto 14 d_T_isFull_10 (by decide) ?_
    exact w_zret (by first | exact Or.inl rfl | exact Or.inr rfl) d_T_isFull_14 rfl (⟨_, rfl, by rw [bI, decide_eq_true (by omega)]; rfl, rfl⟩)
theorem t_heapPages (hT : c 1 = oT a ins rt) (hi : ins ≤ 64) : GW X a m_T_heapPages 1 20 0 0 0 (lv_args 0 [.ref (a 1)]) [] c (pI (eI (nI (fours ins)) c)) := by
  refine w_aload_n d_T_heapPages_0 rfl ?_
  refine w_getf g_T_19 d_T_heapPages_1 hT rfl (by decide) ?_
  refine w_sI [_] c_T_30 d_T_heapPages_4 (t_groupsOfFour (by omega)) (fun x w hw => ?_) rfl rfl (gq rfl) (gq rfl) (gq rfl) (gq rfl) (gq rfl) (gq rfl)
  obtain ⟨rfl, rfl⟩ := hw
  exact w_iret d_T_heapPages_7 rfl (⟨_, rfl, rfl, rfl⟩)
theorem t_indexLeaves (hT : c 1 = oT a ins rt) (hi : rt ≤ 64) : GW X a m_T_indexLeaves 1 21 0 0 0 (lv_args 0 [.ref (a 1)]) [] c (pI (eI (nI (leavesOf rt)) c)) := by
  have e : (if (1 : Int32) < nI (fours rt) then nI (fours rt) else 1) = nI (leavesOf rt) := by
    have h1 : fours rt ≤ 16 := by unfold fours; omega
    rw [show (1 : Int32) = nI 1 from rfl]
    by_cases h : 1 < fours rt
    · rw [if_pos (nI_lt h (by omega)), leavesOf, if_neg (by omega)]
    · rw [if_neg (nI_nlt (by omega) (by decide))]
      unfold leavesOf
      by_cases h2 : fours rt = 0
      · rw [if_pos h2]
      · rw [if_neg h2]
        congr 1
        omega
  refine w_iconst 1 d_T_indexLeaves_0 (by decide) ?_
  refine w_aload_n d_T_indexLeaves_1 rfl ?_
  refine w_getf g_T_27 d_T_indexLeaves_2 hT rfl (by decide) ?_
  refine w_sI [_] c_T_30 d_T_indexLeaves_5 (t_groupsOfFour (by omega)) (fun x w hw => ?_) rfl rfl (gq rfl) (gq rfl) (gq rfl) (gq rfl) (gq rfl) (gq rfl)
  obtain ⟨rfl, rfl⟩ := hw
  refine w_mmax w_362 d_T_indexLeaves_8 (gq rfl) (gq rfl) ?_
  exact w_iret d_T_indexLeaves_11 rfl (⟨_, rfl, e.symm, rfl⟩)
theorem t_hLoop (hT : c 1 = oT a ins rt) : ∀ (m j n : Nat), hgt n = m → n ≤ 16 → j + m ≤ 10 → GW X a m_T_indexHeight 2 41 0 0 7 [(0, .ref (a 1)), (1, .int (nI j)), (2, .int (nI n))] [] c (pI (eI (nI (j + m)) c)) := by
  intro m
  induction m with
  | zero =>
    intro j n hm hn hj
    have h1 := hgt_z hm
    refine w_iload_n d_T_indexHeight_7 rfl ?_
    refine w_iconst 1 d_T_indexHeight_8 (by decide) ?_
    refine w_icmp_le 29 d_T_indexHeight_9 (by decide) (fun _ => ?_) (fun hn => absurd ((nI_leI (by omega) (by decide)).mpr h1) hn)
    refine w_iload_n d_T_indexHeight_29 rfl ?_
    exact w_iret d_T_indexHeight_30 rfl (⟨_, rfl, rfl, rfl⟩)
  | succ m ih =>
    intro j n hm hn hj
    obtain ⟨h1, h2, h3, -⟩ := hgt_s hm hn
    refine w_iload_n d_T_indexHeight_7 rfl ?_
    refine w_iconst 1 d_T_indexHeight_8 (by decide) ?_
    refine w_icmp_le 29 d_T_indexHeight_9 (by decide) (fun hn => absurd hn (fun z => absurd ((nI_leI (b := 1) (by omega) (by decide)).mp z) (by omega))) (fun _ => ?_)
    refine w_iload_n d_T_indexHeight_12 rfl ?_
    refine w_bipush 64 d_T_indexHeight_13 (by decide) ?_
    refine w_icmp_ge 29 d_T_indexHeight_15 (by decide) (fun hn => absurd hn (fun z => absurd ((nI_leI (a := 64) (by decide) (by omega)).mp z) (by omega))) (fun _ => ?_)
    refine w_iload_n d_T_indexHeight_18 rfl ?_
    refine w_sI [_] c_T_30 d_T_indexHeight_19 (t_groupsOfFour (by omega)) (fun x w hw => ?_) rfl rfl (gq rfl) (gq rfl) (gq rfl) (gq rfl) (gq rfl) (gq rfl)
    obtain ⟨rfl, rfl⟩ := hw
    refine w_istore_n d_T_indexHeight_22 (by decide) ?_
    first | refine w_iinc _ d_T_indexHeight_23 rfl (nIinc _) (by decide) ?_ | refine w_iinc _ d_T_indexHeight_23 rfl rfl (by decide) ?_
    refine w_goto 7 d_T_indexHeight_26 (by decide) ?_
    rw [show j + (m + 1) = j + 1 + m by omega]
    exact ih (j + 1) (fours n) h2 h3 (by omega)
theorem t_indexHeight (hT : c 1 = oT a ins rt) (hi : rt ≤ 64) : GW X a m_T_indexHeight 2 41 0 0 0 (lv_args 0 [.ref (a 1)]) [] c (pI (eI (nI (hgt (leavesOf rt))) c)) := by
  have hl := leaves_le hi
  have hh := hgt_le (leavesOf rt)
  refine w_iconst 0 d_T_indexHeight_0 (by decide) ?_
  refine w_istore_n d_T_indexHeight_1 (by decide) ?_
  refine w_aload_n d_T_indexHeight_2 rfl ?_
  refine w_vI [] c_T_40 d_T_indexHeight_3 rfl hT (by decide) (t_indexLeaves hT hi) (fun x w hw => ?_) rfl rfl (gq rfl) (gq rfl) (gq rfl) (gq rfl) (gq rfl) (gq rfl)
  obtain ⟨rfl, rfl⟩ := hw
  refine w_istore_n d_T_indexHeight_6 (by decide) ?_
  have k := t_hLoop (X := X) hT (hgt (leavesOf rt)) 0 (leavesOf rt) rfl hl.1 (by omega)
  rw [Nat.zero_add] at k
  exact k
theorem t_zLoop (hT : c 1 = oT a ins rt) : ∀ (m j n z : Nat), hgt n = m → n ≤ 16 → j + m ≤ 10 → GW X a m_T_indexSize 3 63 0 0 15 [(0, .ref (a 1)), (1, .int (nI (j + m))), (2, .int (nI n)), (3, .int (nI (z + n))), (4, .int (nI (j + 1)))] [] c (pI (eI (nI (z + szo n)) c)) := by
  intro m
  induction m with
  | zero =>
    intro j n z hm hn hj
    have h1 := hgt_z hm
    have h2 : szo n = n := by unfold szo; rw [if_pos h1]
    rw [h2]
    refine w_iload d_T_indexSize_15 rfl ?_
    refine w_iload_n d_T_indexSize_17 rfl ?_
    refine w_icmp_gt 36 d_T_indexSize_18 (by decide) (fun _ => ?_) (fun hn => absurd ((nI_ltI (by omega) (by omega)).mpr (by omega)) hn)
    refine w_iload_n d_T_indexSize_36 rfl ?_
    exact w_iret d_T_indexSize_37 rfl (⟨_, rfl, rfl, rfl⟩)
  | succ m ih =>
    intro j n z hm hn hj
    obtain ⟨h1, h2, h3, h4⟩ := hgt_s hm hn
    refine w_iload d_T_indexSize_15 rfl ?_
    refine w_iload_n d_T_indexSize_17 rfl ?_
    refine w_icmp_gt 36 d_T_indexSize_18 (by decide) (fun hn => absurd hn (fun q => absurd ((nI_ltI (by omega) (by omega)).mp q) (by omega))) (fun _ => ?_)
    refine w_iload_n d_T_indexSize_21 rfl ?_
    refine w_sI [_] c_T_30 d_T_indexSize_22 (t_groupsOfFour (by omega)) (fun x w hw => ?_) rfl rfl (gq rfl) (gq rfl) (gq rfl) (gq rfl) (gq rfl) (gq rfl)
    obtain ⟨rfl, rfl⟩ := hw
    refine w_istore_n d_T_indexSize_25 (by decide) ?_
    refine w_iload_n d_T_indexSize_26 rfl ?_
    refine w_iload_n d_T_indexSize_27 rfl ?_
    refine w_iadd d_T_indexSize_28 ?_
    rw [nI_add]
    refine w_istore_n d_T_indexSize_29 (by decide) ?_
    first | refine w_iinc _ d_T_indexSize_30 rfl (nIinc _) (by decide) ?_ | refine w_iinc _ d_T_indexSize_30 rfl rfl (by decide) ?_
    refine w_goto 15 d_T_indexSize_33 (by decide) ?_
    rw [show j + (m + 1) = j + 1 + m by omega, h4, show z + (n + szo (fours n)) = (z + n) + szo (fours n) by omega]
    exact ih (j + 1) (fours n) (z + n) h2 h3 (by omega)
theorem t_indexSize (hT : c 1 = oT a ins rt) (hi : rt ≤ 64) : GW X a m_T_indexSize 3 63 0 0 0 (lv_args 0 [.ref (a 1)]) [] c (pI (eI (nI (szo (leavesOf rt))) c)) := by
  have hl := leaves_le hi
  have hh := hgt_le (leavesOf rt)
  refine w_aload_n d_T_indexSize_0 rfl ?_
  refine w_vI [] c_T_44 d_T_indexSize_1 rfl hT (by decide) (t_indexHeight hT hi) (fun x w hw => ?_) rfl rfl (gq rfl) (gq rfl) (gq rfl) (gq rfl) (gq rfl) (gq rfl)
  obtain ⟨rfl, rfl⟩ := hw
  refine w_istore_n d_T_indexSize_4 (by decide) ?_
  refine w_aload_n d_T_indexSize_5 rfl ?_
  refine w_vI [] c_T_40 d_T_indexSize_6 rfl hT (by decide) (t_indexLeaves hT hi) (fun x w hw => ?_) rfl rfl (gq rfl) (gq rfl) (gq rfl) (gq rfl) (gq rfl) (gq rfl)
  obtain ⟨rfl, rfl⟩ := hw
  refine w_istore_n d_T_indexSize_9 (by decide) ?_
  refine w_iload_n d_T_indexSize_10 rfl ?_
  refine w_istore_n d_T_indexSize_11 (by decide) ?_
  refine w_iconst 1 d_T_indexSize_12 (by decide) ?_
  refine w_istore d_T_indexSize_13 (by decide) ?_
  have k := t_zLoop (X := X) hT (hgt (leavesOf rt)) 0 (leavesOf rt) 0 rfl hl.1 (by omega)
  simp only [Nat.zero_add] at k
  exact k
theorem t_compare {r o : Nat} {k : Int32} (hT : c 1 = oT a ins rt) (hV : c 2 = aI X 192 v) (hr : r < 64) (ho : o < 64) (hk : isCol k) : GW X a m_T_compare 1 22 0 0 0 (lv_args 0 [.ref (a 1), .int (nI r), .int (nI o), .int k]) [] c (pI (eI (cmpI (colV v r k) (colV v o k)) c)) := by
  rcases hk with rfl | ⟨j, hj, rfl⟩
  · skip
    refine w_iload_n d_T_compare_0 rfl ?_
    refine w_iconst (-1) d_T_compare_1 (by decide) ?_
    refine w_icmp_ne 9 d_T_compare_2 (by decide) (fun hn => absurd (rfl) hn) (fun _ => ?_)
    refine w_iconst 0 d_T_compare_5 (by decide) ?_
    refine w_goto 24 d_T_compare_6 (by decide) ?_
    exact w_iret d_T_compare_24 rfl (⟨_, rfl, rfl, rfl⟩)
  · have e : ∀ r, colV v r (nI j) = v (3 * r + j) := fun r => by
      rw [colV, if_neg (nI_neg (by omega)), nI_clamp (by omega)]
    refine w_iload_n d_T_compare_0 rfl ?_
    refine w_iconst (-1) d_T_compare_1 (by decide) ?_
    refine w_icmp_ne 9 d_T_compare_2 (by decide) (fun _ => ?_) (fun hn => absurd hn ((nI_neg (by omega))))
    refine w_aload_n d_T_compare_9 rfl ?_
    refine w_iload_n d_T_compare_10 rfl ?_
    refine w_iload_n d_T_compare_11 rfl ?_
    refine w_vI [_, _] c_T_55 d_T_compare_12 rfl hT (by decide) (t_at hT hV hr hj) (fun x w hw => ?_) rfl rfl (gq rfl) (gq rfl) (gq rfl) (gq rfl) (gq rfl) (gq rfl)
    obtain ⟨rfl, rfl⟩ := hw
    refine w_aload_n d_T_compare_15 rfl ?_
    refine w_iload_n d_T_compare_16 rfl ?_
    refine w_iload_n d_T_compare_17 rfl ?_
    refine w_vI [_, _] c_T_55 d_T_compare_18 rfl hT (by decide) (t_at hT hV ho hj) (fun x w hw => ?_) rfl rfl (gq rfl) (gq rfl) (gq rfl) (gq rfl) (gq rfl) (gq rfl)
    obtain ⟨rfl, rfl⟩ := hw
    refine w_sI [_, _] c_T_58 d_T_compare_21 (t_compareI) (fun x w hw => ?_) rfl rfl (gq rfl) (gq rfl) (gq rfl) (gq rfl) (gq rfl) (gq rfl)
    obtain ⟨rfl, rfl⟩ := hw
    exact w_iret d_T_compare_24 rfl (⟨_, rfl, by rw [e, e], rfl⟩)
theorem cmpI_gt {x y : Int32} : 0 < cmpI x y ↔ y < x := by
  unfold cmpI
  by_cases h1 : x < y
  · rw [if_pos h1]
    exact ⟨fun z => absurd z (by decide), fun z => absurd h1 (Int32.not_lt.mpr (Int32.le_of_lt z))⟩
  · rw [if_neg h1]
    by_cases h2 : x = y
    · rw [if_pos h2, h2]
      exact ⟨fun z => absurd z (by decide), fun z => absurd z (Int32.lt_irrefl)⟩
    · rw [if_neg h2]
      refine ⟨fun _ => ?_, fun _ => by decide⟩
      rw [Int32.lt_iff_toInt_lt] at *
      have : x.toInt ≠ y.toInt := fun z => h2 (Int32.toInt_inj.mp z)
      omega
theorem cmpI_eq {x y : Int32} : cmpI x y = 0 ↔ x = y := by
  unfold cmpI
  by_cases h1 : x < y
  · rw [if_pos h1]
    refine ⟨fun z => absurd z (by decide), fun z => ?_⟩
    rw [z] at h1
    exact absurd h1 Int32.lt_irrefl
  · rw [if_neg h1]
    by_cases h2 : x = y
    · rw [if_pos h2]; exact ⟨fun _ => h2, fun _ => rfl⟩
    · rw [if_neg h2]; exact ⟨fun z => absurd z (by decide), fun z => absurd z h2⟩
theorem t_isAfter {r o : Nat} {k l : Int32} (hT : c 1 = oT a ins rt) (hV : c 2 = aI X 192 v) (hr : r < 64) (ho : o < 64) (hk : isCol k) (hl : isCol l) : GW X a m_T_isAfter 2 45 0 0 0 (lv_args 0 [.ref (a 1), .int (nI r), .int (nI o), .int k, .int l]) [] c (pI (eI (bI (gtv v k l r o)) c)) := by
  refine w_aload_n d_T_isAfter_0 rfl ?_
  refine w_iload_n d_T_isAfter_1 rfl ?_
  refine w_iload_n d_T_isAfter_2 rfl ?_
  refine w_iload_n d_T_isAfter_3 rfl ?_
  refine w_vI [_, _, _] c_T_51 d_T_isAfter_4 rfl hT (by decide) (t_compare hT hV hr ho hk) (fun x w hw => ?_) rfl rfl (gq rfl) (gq rfl) (gq rfl) (gq rfl) (gq rfl) (gq rfl)
  obtain ⟨rfl, rfl⟩ := hw
  refine w_istore d_T_isAfter_7 (by decide) ?_
  refine w_iload d_T_isAfter_9 rfl ?_
  refine w_if_gt 30 d_T_isAfter_11 (by decide) (fun h1 => ?_) (fun h1 => ?_)
  · -- taken
    refine w_iconst 1 d_T_isAfter_30 (by decide) ?_
    refine w_goto 35 d_T_isAfter_31 (by decide) ?_
    exact w_zret (by first | exact Or.inl rfl | exact Or.inr rfl) d_T_isAfter_35 rfl (⟨_, rfl, by rw [bI, gtv, decide_eq_true (cmpI_gt.mp h1)]; rfl, rfl⟩)
  · -- not taken
    have n1 : ¬ colV v o k < colV v r k := fun z => h1 (cmpI_gt.mpr z)
    refine w_iload d_T_isAfter_14 rfl ?_
    refine w_if_ne 34 d_T_isAfter_16 (by decide) (fun h2 => ?_) (fun h2 => ?_)
    · -- taken
      refine w_iconst 0 d_T_isAfter_34 (by decide) ?_
      exact w_zret (by first | exact Or.inl rfl | exact Or.inr rfl) d_T_isAfter_35 rfl (⟨_, rfl, by rw [bI, gtv, decide_eq_false n1, decide_eq_false (fun z => h2 (cmpI_eq.mpr z))]; rfl, rfl⟩)
    · -- not taken
      have e2 := cmpI_eq.mp h2
      refine w_aload_n d_T_isAfter_19 rfl ?_
      refine w_iload_n d_T_isAfter_20 rfl ?_
      refine w_iload_n d_T_isAfter_21 rfl ?_
      refine w_iload d_T_isAfter_22 rfl ?_
      refine w_vI [_, _, _] c_T_51 d_T_isAfter_24 rfl hT (by decide) (t_compare hT hV hr ho hl) (fun x w hw => ?_) rfl rfl (gq rfl) (gq rfl) (gq rfl) (gq rfl) (gq rfl) (gq rfl)
      obtain ⟨rfl, rfl⟩ := hw
      refine w_if_le 34 d_T_isAfter_27 (by decide) (fun h3 => ?_) (fun h3 => ?_)
      · -- taken
        refine w_iconst 0 d_T_isAfter_34 (by decide) ?_
        exact w_zret (by first | exact Or.inl rfl | exact Or.inr rfl) d_T_isAfter_35 rfl (⟨_, rfl, by rw [bI, gtv, decide_eq_false n1, decide_eq_true e2, decide_eq_false (fun z => absurd h3 (Int32.not_le.mpr (cmpI_gt.mpr z)))]; rfl, rfl⟩)
      · -- not taken
        refine w_iconst 1 d_T_isAfter_30 (by decide) ?_
        refine w_goto 35 d_T_isAfter_31 (by decide) ?_
        exact w_zret (by first | exact Or.inl rfl | exact Or.inr rfl) d_T_isAfter_35 rfl (⟨_, rfl, by rw [bI, gtv, decide_eq_false n1, decide_eq_true e2, decide_eq_true (cmpI_gt.mp (Int32.not_le.mp h3))]; rfl, rfl⟩)
end TB
end
section
/-! RowList, Conditions; Table.add, remove, firstEntry -/
abbrev oR (a : Nat → Nat) (q cnt : Nat) : va_E := .inr (9, [.ref (a (q + 1)), .int (nI cnt)])
abbrev oC (a : Nat → Nat) (q : Nat) : va_E := .inr (2, [.ref (a (q + 1)), .ref (a (q + 2)), .ref (a (q + 3))])
-- the class's conditions: kinds, froms, tos at a place q
def cnd (X : gX) (a : Nat → Nat) (c : Nat → va_E) (q : Nat) (K F T : Nat → Int32) : Prop := c q = oC a q ∧ c (q + 1) = aI X 3 K ∧ c (q + 2) = aI X 3 F ∧ c (q + 3) = aI X 3 T
theorem bI_t {b : Bool} : bI b = 0 ↔ b = false := by cases b <;> decide
section RL
variable {X : gX} {a : Nat → Nat} {c : Nat → va_E} {ins rt : Nat} {v h : Nat → Int32}
theorem r_append {q cnt r : Nat} {f : Nat → Int32} (hR : c q = oR a q cnt) (hf : c (q + 1) = aI X 64 f) (hc : cnt < 64) (hq : q < 90) :
    GW X a m_R_append 0 0 0 0 0 (lv_args 0 [.ref (a q), .int (nI r)]) [] c (pV (eV (va_up (va_up c (q + 1) (aI X 64 (upd f cnt (nI r)))) q (oR a q (cnt + 1))))) := by
  have hR1 : va_up c (q + 1) (aI X 64 (upd f cnt (nI r))) q = oR a q cnt := va_n (by omega) hR
  refine w_aload_n d_R_append_0 rfl ?_
  refine w_getf g_R_15 d_R_append_1 hR rfl (by omega) ?_
  refine w_aload_n d_R_append_4 rfl ?_
  refine w_getf g_R_9 d_R_append_5 hR rfl (by omega) ?_
  refine w_alen d_R_append_8 hf (by omega) ?_
  refine w_icmp_ge 32 d_R_append_9 (by decide) (fun hn => absurd hn (fun z => absurd ((nI_leI (a := 64) (by decide) (by omega)).mp z) (by omega))) (fun _ => ?_)
  refine w_aload_n d_R_append_12 rfl ?_
  refine w_getf g_R_9 d_R_append_13 hR rfl (by omega) ?_
  refine w_aload_n d_R_append_16 rfl ?_
  refine w_getf g_R_15 d_R_append_17 hR rfl (by omega) ?_
  refine w_iload_n d_R_append_20 rfl ?_
  refine w_iast d_R_append_21 hf rfl hc (by decide) (by omega) ?_
  refine w_aload_n d_R_append_22 rfl ?_
  refine w_dup d_R_append_23 rfl ?_
  refine w_getf g_R_15 d_R_append_24 hR1 rfl (by omega) ?_
  refine w_iconst 1 d_R_append_27 (by decide) ?_
  refine w_iadd d_R_append_28 ?_
  rw [nI_1]
  refine w_putf p_R_15 d_R_append_29 hR1 rfl rfl (gqL rfl) (by omega) ?_
  exact w_vret d_R_append_32 rfl (⟨rfl, rfl⟩)
-- the inner loop: D has been moved one place up, E stands
theorem r_inner {q n k r : Nat} {f0 : Nat → Int32} {l T : List Nat} {fc gc : Int32} (hT : c 1 = oT a ins rt) (hV : c 2 = aI X 192 v) (hR : c q = oR a q n) (hq : q < 90) (hq3 : 3 < q)
    (hk : k < n) (hn : n ≤ 64) (hr : r < 64) (hfc : isCol fc) (hgc : isCol gc)
    {Post : gO → (Nat → va_E) → Prop} {lr : List Nat} (hlr : k + 1 + lr.length ≤ 64)
    (next : ∀ f' : Nat → Int32, lay f' 0 (insL (gtv v fc gc) r T).reverse → lay f' (k + 1) lr → GW X a m_R_sort 3 70 0 0 81 [(0, .ref (a q)), (1, .ref (a 1)), (2, .int fc), (3, .int gc), (4, .int (nI k)), (5, .int (nI r))] [] (va_up c (q + 1) (aI X 64 f')) Post) :
    ∀ (E D : List Nat) (f : Nat → Int32), T = D ++ E → T.length = k → (∀ x ∈ D, gtv v fc gc x r = true) → (∀ x ∈ E, x < 64) → lay f 0 E.reverse → lay f (E.length + 1) D.reverse → lay f (k + 1) lr →
      GW X a m_R_sort 3 70 0 0 25 [(0, .ref (a q)), (1, .ref (a 1)), (2, .int fc), (3, .int gc), (4, .int (nI k)), (5, .int (nI r)), (6, .int (nI E.length))] [] (va_up c (q + 1) (aI X 64 f)) Post := by
  intro E
  induction E with
  | nil =>
    intro D f hT0 hl hD hE h1 h2 h3
    have hlD : D.length = k := by rw [← hl, hT0]; simp
    have hfin : insL (gtv v fc gc) r T = D ++ r :: [] := by
      rw [hT0]
      exact insL_split hD (fun e E' h => by cases h)
    refine w_iload d_R_sort_25 rfl ?_
    refine w_if_le 72 d_R_sort_27 (by decide) (fun _ => ?_) (fun hn => absurd ((by decide)) hn)
    refine w_aload_n d_R_sort_72 rfl ?_
    refine w_getf g_R_9 d_R_sort_73 (va_n (by omega) hR) rfl (by omega) ?_
    refine w_iload d_R_sort_76 rfl ?_
    refine w_iload d_R_sort_78 rfl ?_
    refine w_iast d_R_sort_80 va_s rfl (by decide : 0 < 64) (by decide) (by omega) ?_
    rw [bx_uu]
    refine w_sel [0, 1, 2, 3, 4, 5] rfl (next _ ?_ ?_)
    · rw [hfin, List.reverse_append]; refine lay_app.mpr ⟨lay_one.mpr pk_us, lay_upd h2 (Or.inl (by simp))⟩
    · exact lay_upd h3 (Or.inl (by simp))
  | cons e E ih =>
    intro D f hT0 hl hD hE h1 h2 h3
    have hlE : D.length + (E.length + 1) = k := by rw [← hl, hT0]; simp
    have he : e < 64 := hE e List.mem_cons_self
    rw [List.reverse_cons] at h1
    obtain ⟨h4, h5⟩ := lay_app.mp h1
    rw [List.length_reverse, Nat.zero_add] at h5
    have h6 : f E.length = nI e := lay_one.mp h5
    have e1 : nI (E.length + 1) - 1 = nI E.length := nI_pred _
    have hTT : va_up c (q + 1) (aI X 64 f) 1 = oT a ins rt := va_n (by omega) hT
    have hVV : va_up c (q + 1) (aI X 64 f) 2 = aI X 192 v := va_n (by omega) hV
    have hRR : va_up c (q + 1) (aI X 64 f) q = oR a q n := va_n (by omega) hR
    show GW X a m_R_sort 3 70 0 0 25 [(0, .ref (a q)), (1, .ref (a 1)), (2, .int fc), (3, .int gc), (4, .int (nI k)), (5, .int (nI r)), (6, .int (nI (E.length + 1)))] [] (va_up c (q + 1) (aI X 64 f)) Post
    refine w_iload d_R_sort_25 rfl ?_
    refine w_if_le 72 d_R_sort_27 (by decide) (fun hn => absurd hn (nI_nle (by omega) (by omega))) (fun _ => ?_)
    refine w_aload_n d_R_sort_30 rfl ?_
    refine w_aload_n d_R_sort_31 rfl ?_
    refine w_getf g_R_9 d_R_sort_32 hRR rfl (by omega) ?_
    refine w_iload d_R_sort_35 rfl ?_
    refine w_iconst 1 d_R_sort_37 (by decide) ?_
    refine w_isub d_R_sort_38 ?_
    rw [e1]
    refine w_iald d_R_sort_39 va_s rfl (by omega) (by decide) (by omega) ?_
    rw [h6]
    refine w_iload d_R_sort_40 rfl ?_
    refine w_iload_n d_R_sort_42 rfl ?_
    refine w_iload_n d_R_sort_43 rfl ?_
    refine w_vI [_, _, _, _] c_R_19 d_R_sort_44 rfl hTT (by decide) (t_isAfter hTT hVV he hr hfc hgc) (fun x w hw => ?_) rfl rfl (gq rfl) (gq rfl) (gq rfl) (gq rfl) (gq rfl) (gq rfl)
    obtain ⟨rfl, rfl⟩ := hw
    refine w_if_eq 72 d_R_sort_47 (by decide) (fun hg => ?_) (fun hg => ?_)
    · -- taken
      have hgf := bI_t.mp hg
      have hfin : insL (gtv v fc gc) r T = D ++ r :: (e :: E) := by rw [hT0]; exact insL_split hD (fun e' E' h => by cases h; exact hgf)
      refine w_aload_n d_R_sort_72 rfl ?_
      refine w_getf g_R_9 d_R_sort_73 hRR rfl (by omega) ?_
      refine w_iload d_R_sort_76 rfl ?_
      refine w_iload d_R_sort_78 rfl ?_
      refine w_iast d_R_sort_80 va_s rfl (by omega) (by decide) (by omega) ?_
      rw [bx_uu]
      refine w_sel [0, 1, 2, 3, 4, 5] rfl (next _ ?_ ?_)
      · rw [hfin, List.reverse_append, List.reverse_cons, List.reverse_cons]
        refine lay_app.mpr ⟨lay_app.mpr ⟨lay_app.mpr ⟨lay_upd h4 (Or.inr (by simp)), lay_one.mpr ?_⟩, lay_one.mpr ?_⟩, ?_⟩
        · rw [pk_un (by simp), Nat.zero_add, List.length_reverse]; exact h6
        · rw [show 0 + (E.reverse ++ [e]).length = E.length + 1 by simp]; exact pk_us
        · have h7 := lay_upd (k := E.length + 1) (x := nI r) h2 (Or.inl (by simp))
          rw [show 0 + (E.reverse ++ [e] ++ [r]).length = (e :: E).length + 1 by simp]
          exact h7
      · exact lay_upd h3 (Or.inl (by omega))
    · -- not taken
      have hgt : gtv v fc gc e r = true := by cases hb : gtv v fc gc e r with | true => rfl | false => exact absurd (bI_t.mpr hb) hg
      refine w_aload_n d_R_sort_50 rfl ?_
      refine w_getf g_R_9 d_R_sort_51 hRR rfl (by omega) ?_
      refine w_iload d_R_sort_54 rfl ?_
      refine w_aload_n d_R_sort_56 rfl ?_
      refine w_getf g_R_9 d_R_sort_57 hRR rfl (by omega) ?_
      refine w_iload d_R_sort_60 rfl ?_
      refine w_iconst 1 d_R_sort_62 (by decide) ?_
      refine w_isub d_R_sort_63 ?_
      rw [e1]
      refine w_iald d_R_sort_64 va_s rfl (by omega) (by decide) (by omega) ?_
      rw [h6]
      refine w_iast d_R_sort_65 va_s rfl (by omega) (by decide) (by omega) ?_
      first | refine w_iinc _ d_R_sort_66 rfl (nIdec _) (by decide) ?_ | refine w_iinc _ d_R_sort_66 rfl rfl (by decide) ?_
      refine w_goto 25 d_R_sort_69 (by decide) ?_
      rw [bx_uu]
      refine w_sel [0, 1, 2, 3, 4, 5, 6] rfl (ih (D ++ [e]) _ ?_ hl ?_ (fun x hx => hE x (List.mem_cons_of_mem _ hx)) ?_ ?_ ?_)
      · rw [hT0]; simp
      · intro x hx; rcases List.mem_append.mp hx with hx | hx; exact hD x hx; rw [List.mem_singleton.mp hx]; exact hgt
      · exact lay_upd h4 (Or.inr (by simp))
      · rw [List.reverse_append]; refine lay_app.mpr ⟨lay_one.mpr pk_us, lay_upd h2 (Or.inl (by simp))⟩
      · exact lay_upd h3 (Or.inl (by omega))
theorem r_outer {q n : Nat} {l : List Nat} {fc gc : Int32} (hT : c 1 = oT a ins rt) (hV : c 2 = aI X 192 v) (hR : c q = oR a q n) (hq : q < 90) (hq3 : 3 < q) (hln : l.length = n) (hn : n ≤ 64) (hl64 : ∀ x ∈ l, x < 64) (hfc : isCol fc) (hgc : isCol gc) :
    ∀ (d k : Nat) (f : Nat → Int32), k + d = n → lay f 0 (srt (gtv v fc gc) (l.take k)).reverse → lay f k (l.drop k) → (srt (gtv v fc gc) (l.take k)).length = k → (∀ x ∈ srt (gtv v fc gc) (l.take k), x < 64) →
      GW X a m_R_sort 3 70 0 0 3 [(0, .ref (a q)), (1, .ref (a 1)), (2, .int fc), (3, .int gc), (4, .int (nI k))] [] (va_up c (q + 1) (aI X 64 f)) (pV (fun w => ∃ f', w = va_up c (q + 1) (aI X 64 f') ∧ lay f' 0 (srt (gtv v fc gc) l).reverse)) := by
  intro d
  induction d with
  | zero =>
    intro k f hk h1 h2 h3 h4
    have hRR : va_up c (q + 1) (aI X 64 f) q = oR a q n := va_n (by omega) hR
    rw [List.take_of_length_le (by omega)] at h1
    refine w_iload d_R_sort_3 rfl ?_
    refine w_aload_n d_R_sort_5 rfl ?_
    refine w_getf g_R_15 d_R_sort_6 hRR rfl (by omega) ?_
    refine w_icmp_ge 87 d_R_sort_9 (by decide) (fun _ => ?_) (fun hn => absurd ((nI_leI (by omega) (by omega)).mpr (by omega)) hn)
    exact w_vret d_R_sort_87 rfl (⟨rfl, f, rfl, h1⟩)
  | succ d ih =>
    intro k f hk h1 h2 h3 h4
    have hkl : k < l.length := by omega
    have hRR : va_up c (q + 1) (aI X 64 f) q = oR a q n := va_n (by omega) hR
    rw [drop_cons hkl] at h2
    obtain ⟨h5, h6⟩ := lay_cons.mp h2
    have hr := hl64 _ (getD_mem hkl)
    have hsn : srt (gtv v fc gc) (l.take (k + 1)) = insL (gtv v fc gc) (l.getD k 0) (srt (gtv v fc gc) (l.take k)) := by rw [take_snoc hkl, srt_snoc]
    refine w_iload d_R_sort_3 rfl ?_
    refine w_aload_n d_R_sort_5 rfl ?_
    refine w_getf g_R_15 d_R_sort_6 hRR rfl (by omega) ?_
    refine w_icmp_ge 87 d_R_sort_9 (by decide) (fun hn => absurd hn (fun z => absurd ((nI_leI (by omega) (by omega)).mp z) (by omega))) (fun _ => ?_)
    refine w_aload_n d_R_sort_12 rfl ?_
    refine w_getf g_R_9 d_R_sort_13 hRR rfl (by omega) ?_
    refine w_iload d_R_sort_16 rfl ?_
    refine w_iald d_R_sort_18 va_s rfl (by omega) (by decide) (by omega) ?_
    rw [h5]
    refine w_istore d_R_sort_19 (by decide) ?_
    refine w_iload d_R_sort_21 rfl ?_
    refine w_istore d_R_sort_23 (by decide) ?_
    have key := r_inner (X := X) (T := srt (gtv v fc gc) (l.take k)) (f0 := f) (l := l) (k := k) (r := l.getD k 0) hT hV hR hq hq3 (by omega) hn hr hfc hgc (lr := l.drop (k + 1)) (Post := pV (fun w => ∃ f', w = va_up c (q + 1) (aI X 64 f') ∧ lay f' 0 (srt (gtv v fc gc) l).reverse)) (by rw [List.length_drop]; omega) (fun f' g1 g2 => ?_) (srt (gtv v fc gc) (l.take k)) [] f rfl h3 (fun x hx => by cases hx) h4 h1 lay_nil h6
    · rw [h3] at key
      exact key
    first | refine w_iinc _ d_R_sort_81 rfl (nIinc _) (by decide) ?_ | refine w_iinc _ d_R_sort_81 rfl rfl (by decide) ?_
    refine w_goto 3 d_R_sort_84 (by decide) ?_
    refine w_sel [0, 1, 2, 3, 4] rfl (ih (k + 1) f' (by omega) (by rw [hsn]; exact g1) g2 (by rw [hsn, insL_len, h3]) (fun x hx => ?_))
    rw [hsn] at hx
    rcases insL_mem.mp hx with rfl | hx
    · exact hr
    · exact h4 x hx
theorem r_sort {q n : Nat} {l : List Nat} {f : Nat → Int32} {fc gc : Int32} (hT : c 1 = oT a ins rt) (hV : c 2 = aI X 192 v) (hR : c q = oR a q n) (hf : c (q + 1) = aI X 64 f) (hq : q < 90) (hq3 : 3 < q) (hln : l.length = n) (hn : n ≤ 64) (hl64 : ∀ x ∈ l, x < 64) (hfc : isCol fc) (hgc : isCol gc) (hlay : lay f 0 l) :
    GW X a m_R_sort 3 70 0 0 0 (lv_args 0 [.ref (a q), .ref (a 1), .int fc, .int gc]) [] c (pV (fun w => ∃ f', w = va_up c (q + 1) (aI X 64 f') ∧ lay f' 0 (srt (gtv v fc gc) l).reverse)) := by
  have hc : c = va_up c (q + 1) (aI X 64 f) := by
    funext j
    by_cases hj : j = q + 1
    · subst hj; rw [va_s]; exact hf
    · rw [va_n hj rfl]
  by_cases h0 : n = 0
  · have hl0 : l = [] := List.length_eq_zero_iff.mp (by omega)
    subst hl0
    refine w_iconst 1 d_R_sort_0 (by decide) ?_
    refine w_istore d_R_sort_1 (by decide) ?_
    refine w_iload d_R_sort_3 rfl ?_
    refine w_aload_n d_R_sort_5 rfl ?_
    refine w_getf g_R_15 d_R_sort_6 hR rfl (by omega) ?_
    refine w_icmp_ge 87 d_R_sort_9 (by decide) (fun _ => ?_) (fun hn => absurd ((nI_leI (b := 1) (by omega) (by decide)).mpr (by omega)) hn)
    exact w_vret d_R_sort_87 rfl (⟨rfl, f, hc, lay_nil⟩)
  · have h1 : 0 < l.length := by omega
    have e1 : l.take 1 = [l.getD 0 0] := by rw [take_snoc (k := 0) h1]; rfl
    have e2 : srt (gtv v fc gc) (l.take 1) = [l.getD 0 0] := by rw [e1]; rfl
    have h2 := hlay
    rw [show l = l.drop 0 from rfl, drop_cons h1] at h2
    obtain ⟨h3, h4⟩ := lay_cons.mp h2
    have key := r_outer (X := X) hT hV hR hq hq3 hln hn hl64 hfc hgc (n - 1) 1 f (by omega) (by rw [e2]; exact lay_one.mpr h3) h4 (by rw [e2]; rfl) (fun x hx => by rw [e2] at hx; rw [List.mem_singleton.mp hx]; exact hl64 _ (getD_mem h1))
    rw [← hc] at key
    refine w_iconst 1 d_R_sort_0 (by decide) ?_
    refine w_istore d_R_sort_1 (by decide) ?_
    exact key
end RL
end
section
/-! Conditions; Table.add, remove, firstEntry -/
def fitB (K F T : Nat → Int32) (j : Nat) (x : Int32) : Bool := decide (K j = 0) || (decide (F j ≤ x) && decide (x ≤ T j))
def fitR (K F T v : Nat → Int32) (r : Nat) : Bool := fitB K F T 0 (v (3 * r)) && (fitB K F T 1 (v (3 * r + 1)) && fitB K F T 2 (v (3 * r + 2)))
def toK (K F T : Nat → Int32) (j : Nat) : Int32 := if K j = 1 then F j else T j
def kc (K : Nat → Int32) : Int32 := ((0 * 3 + K 2) * 3 + K 1) * 3 + K 0
theorem same_trans {c d w : Nat → va_E} {l : List Nat} (h1 : same c d l) (h2 : same d w l) : same c w l := fun k hk => (h2 k hk).trans (h1 k hk)
theorem same_up {c : Nat → va_E} {q : Nat} {e : va_E} {l : List Nat} (h : q ∈ l) : same c (va_up c q e) l := fun k hk => va_n (fun z => hk (z ▸ h)) rfl
theorem same_sub {c w : Nat → va_E} {l l' : List Nat} (h : same c w l) (hs : ∀ x ∈ l, x ∈ l') : same c w l' := fun k hk => h k (fun z => hk (hs k z))
theorem same_rf {c : Nat → va_E} {l : List Nat} : same c c l := fun _ _ => rfl
theorem bI_n {b : Bool} : ¬ bI b = 0 ↔ b = true := by cases b <;> decide
theorem lt3 {j : Nat} (h : j < 3) : j = 0 ∨ j = 1 ∨ j = 2 := by omega
section CN
variable {X : gX} {a : Nat → Nat} {c : Nat → va_E} {ins rt : Nat} {v h : Nat → Int32} {K F T : Nat → Int32} {q : Nat}
theorem c_binds {j : Nat} (hC : cnd X a c q K F T) (hq : q < 90) (hj : j < 3) : GW X a m_C_binds 0 0 0 0 0 (lv_args 0 [.ref (a q), .int (nI j)]) [] c (pI (eI (bI (decide (¬ K j = 0))) c)) := by
  obtain ⟨h1, h2, h3, h4⟩ := hC
  refine w_aload_n d_C_binds_0 rfl ?_
  refine w_getf g_C_9 d_C_binds_1 h1 rfl (by omega) ?_
  refine w_iload_n d_C_binds_4 rfl ?_
  refine w_iald d_C_binds_5 h2 rfl hj (by decide) (by omega) ?_
  refine w_if_eq 13 d_C_binds_6 (by decide) (fun hz => ?_) (fun hz => ?_)
  · -- taken
    refine w_iconst 0 d_C_binds_13 (by decide) ?_
    exact w_zret (by first | exact Or.inl rfl | exact Or.inr rfl) d_C_binds_14 rfl (⟨_, rfl, by rw [bI, decide_eq_false (fun z => z hz)]; rfl, rfl⟩)
  · -- not taken
    refine w_iconst 1 d_C_binds_9 (by decide) ?_
    refine w_goto 14 d_C_binds_10 (by decide) ?_
    exact w_zret (by first | exact Or.inl rfl | exact Or.inr rfl) d_C_binds_14 rfl (⟨_, rfl, by rw [bI, decide_eq_true hz]; rfl, rfl⟩)
theorem c_fit {j : Nat} {x : Int32} (hC : cnd X a c q K F T) (hq : q < 90) (hj : j < 3) : GW X a m_C_fit 0 0 0 0 0 (lv_args 0 [.ref (a q), .int (nI j), .int x]) [] c (pI (eI (bI (fitB K F T j x)) c)) := by
  obtain ⟨h1, h2, h3, h4⟩ := hC
  refine w_aload_n d_C_fit_0 rfl ?_
  refine w_getf g_C_9 d_C_fit_1 h1 rfl (by omega) ?_
  refine w_iload_n d_C_fit_4 rfl ?_
  refine w_iald d_C_fit_5 h2 rfl hj (by decide) (by omega) ?_
  refine w_if_eq 29 d_C_fit_6 (by decide) (fun hz => ?_) (fun hz => ?_)
  · -- taken
    refine w_iconst 1 d_C_fit_29 (by decide) ?_
    refine w_goto 34 d_C_fit_30 (by decide) ?_
    exact w_zret (by first | exact Or.inl rfl | exact Or.inr rfl) d_C_fit_34 rfl (⟨_, rfl, by rw [bI, fitB, decide_eq_true hz]; rfl, rfl⟩)
  · -- not taken
    refine w_aload_n d_C_fit_9 rfl ?_
    refine w_getf g_C_15 d_C_fit_10 h1 rfl (by omega) ?_
    refine w_iload_n d_C_fit_13 rfl ?_
    refine w_iald d_C_fit_14 h3 rfl hj (by decide) (by omega) ?_
    refine w_iload_n d_C_fit_15 rfl ?_
    refine w_icmp_gt 33 d_C_fit_16 (by decide) (fun h5 => ?_) (fun h5 => ?_)
    · -- taken
      refine w_iconst 0 d_C_fit_33 (by decide) ?_
      exact w_zret (by first | exact Or.inl rfl | exact Or.inr rfl) d_C_fit_34 rfl (⟨_, rfl, by rw [bI, fitB, decide_eq_false hz, decide_eq_false (fun z => absurd h5 (Int32.not_lt.mpr z))]; rfl, rfl⟩)
    · -- not taken
      refine w_iload_n d_C_fit_19 rfl ?_
      refine w_aload_n d_C_fit_20 rfl ?_
      refine w_getf g_C_18 d_C_fit_21 h1 rfl (by omega) ?_
      refine w_iload_n d_C_fit_24 rfl ?_
      refine w_iald d_C_fit_25 h4 rfl hj (by decide) (by omega) ?_
      refine w_icmp_gt 33 d_C_fit_26 (by decide) (fun h6 => ?_) (fun h6 => ?_)
      · -- taken
        refine w_iconst 0 d_C_fit_33 (by decide) ?_
        exact w_zret (by first | exact Or.inl rfl | exact Or.inr rfl) d_C_fit_34 rfl (⟨_, rfl, by rw [bI, fitB, decide_eq_false hz, decide_eq_true (Int32.not_lt.mp h5), decide_eq_false (fun z => absurd h6 (Int32.not_lt.mpr z))]; rfl, rfl⟩)
      · -- not taken
        refine w_iconst 1 d_C_fit_29 (by decide) ?_
        refine w_goto 34 d_C_fit_30 (by decide) ?_
        exact w_zret (by first | exact Or.inl rfl | exact Or.inr rfl) d_C_fit_34 rfl (⟨_, rfl, by rw [bI, fitB, decide_eq_false hz, decide_eq_true (Int32.not_lt.mp h5), decide_eq_true (Int32.not_lt.mp h6)]; rfl, rfl⟩)
theorem c_fitGo {r : Nat} (hC : cnd X a c q K F T) (hq : q < 90) (hT : c 1 = oT a ins rt) (hV : c 2 = aI X 192 v) (hr : r < 64) : ∀ (d j : Nat), j + d = 3 →
    GW X a m_C_fitRow 1 22 0 0 2 [(0, .ref (a q)), (1, .ref (a 1)), (2, .int (nI r)), (3, .int (nI j))] [] c (pI (eI (bI ((List.range d).all (fun i => fitB K F T (j + i) (v (3 * r + (j + i)))))) c)) := by
  intro d
  induction d with
  | zero =>
    intro j hj
    have hj3 : j = 3 := by omega
    subst hj3
    refine w_iload_n d_C_fitRow_2 rfl ?_
    refine w_iconst 3 d_C_fitRow_3 (by decide) ?_
    refine w_icmp_ge 29 d_C_fitRow_4 (by decide) (fun _ => ?_) (fun hn => absurd ((nI_leI (a := 3) (b := 3) (by decide) (by decide)).mpr (by omega)) hn)
    refine w_iconst 1 d_C_fitRow_29 (by decide) ?_
    exact w_zret (by first | exact Or.inl rfl | exact Or.inr rfl) d_C_fitRow_30 rfl (⟨_, rfl, rfl, rfl⟩)
  | succ d ih =>
    intro j hj
    have e : (List.range (d + 1)).all (fun i => fitB K F T (j + i) (v (3 * r + (j + i)))) = (fitB K F T j (v (3 * r + j)) && (List.range d).all (fun i => fitB K F T (j + 1 + i) (v (3 * r + (j + 1 + i))))) := by
      rw [List.range_succ_eq_map, List.all_cons, List.all_map]
      congr 2
      funext i
      simp only [Function.comp, Nat.succ_eq_add_one]
      rw [show j + (i + 1) = j + 1 + i by omega]
    rw [e]
    refine w_iload_n d_C_fitRow_2 rfl ?_
    refine w_iconst 3 d_C_fitRow_3 (by decide) ?_
    refine w_icmp_ge 29 d_C_fitRow_4 (by decide) (fun hn => absurd hn (fun z => absurd ((nI_leI (a := 3) (by decide) (by omega)).mp z) (by omega))) (fun _ => ?_)
    refine w_aload_n d_C_fitRow_7 rfl ?_
    refine w_iload_n d_C_fitRow_8 rfl ?_
    refine w_aload_n d_C_fitRow_9 rfl ?_
    refine w_iload_n d_C_fitRow_10 rfl ?_
    refine w_iload_n d_C_fitRow_11 rfl ?_
    refine w_vI [_, _] c_C_25 d_C_fitRow_12 rfl hT (by decide) (t_at hT hV hr (by omega)) (fun x w hw => ?_) rfl rfl (gq rfl) (gq rfl) (gq rfl) (gq rfl) (gq rfl) (gq rfl)
    obtain ⟨rfl, rfl⟩ := hw
    refine w_vI [_, _] c_C_31 d_C_fitRow_15 rfl hC.1 (by omega) (c_fit hC hq (by omega)) (fun x w hw => ?_) rfl rfl (gq rfl) (gq rfl) (gq rfl) (gq rfl) (gq rfl) (gq rfl)
    obtain ⟨rfl, rfl⟩ := hw
    refine w_if_ne 23 d_C_fitRow_18 (by decide) (fun hz => ?_) (fun hz => ?_)
    · -- taken
      rw [bI_n.mp hz, Bool.true_and]
      first | refine w_iinc _ d_C_fitRow_23 rfl (nIinc _) (by decide) ?_ | refine w_iinc _ d_C_fitRow_23 rfl rfl (by decide) ?_
      refine w_goto 2 d_C_fitRow_26 (by decide) ?_
      exact ih (j + 1) (by omega)
    · -- not taken
      refine w_iconst 0 d_C_fitRow_21 (by decide) ?_
      exact w_zret (by first | exact Or.inl rfl | exact Or.inr rfl) d_C_fitRow_22 rfl (⟨_, rfl, by rw [bI_t.mp hz]; rfl, rfl⟩)
theorem c_fitRow {r : Nat} (hC : cnd X a c q K F T) (hq : q < 90) (hT : c 1 = oT a ins rt) (hV : c 2 = aI X 192 v) (hr : r < 64) : GW X a m_C_fitRow 1 22 0 0 0 (lv_args 0 [.ref (a q), .ref (a 1), .int (nI r)]) [] c (pI (eI (bI (fitR K F T v r)) c)) := by
  have k := c_fitGo (r := r) hC hq hT hV hr 3 0 rfl
  have e : (List.range 3).all (fun i => fitB K F T (0 + i) (v (3 * r + (0 + i)))) = fitR K F T v r := by
    simp [List.range_succ, fitR, Bool.and_assoc]
  rw [e] at k
  refine w_iconst 0 d_C_fitRow_0 (by decide) ?_
  refine w_istore_n d_C_fitRow_1 (by decide) ?_
  exact k
theorem c_put {j : Nat} {kd fr to : Int32} (hC : cnd X a c q K F T) (hq : q < 90) (hj : j < 3) : GW X a m_C_put 0 0 0 0 0 (lv_args 0 [.ref (a q), .int (nI j), .int kd, .int fr, .int to]) [] c (pV (fun w => cnd X a w q (upd K j kd) (upd F j fr) (upd T j (if kd = 1 then fr else to)) ∧ same c w [q + 1, q + 2, q + 3])) := by
  obtain ⟨h1, h2, h3, h4⟩ := hC
  have fin : ∀ t, cnd X a (va_up (va_up (va_up c (q + 1) (aI X 3 (upd K j kd))) (q + 2) (aI X 3 (upd F j fr))) (q + 3) (aI X 3 (upd T j t))) q (upd K j kd) (upd F j fr) (upd T j t) ∧ same c (va_up (va_up (va_up c (q + 1) (aI X 3 (upd K j kd))) (q + 2) (aI X 3 (upd F j fr))) (q + 3) (aI X 3 (upd T j t))) [q + 1, q + 2, q + 3] := fun t =>
    ⟨⟨va_n (by omega) (va_n (by omega) (va_n (by omega) h1)), va_n (by omega) (va_n (by omega) va_s), va_n (by omega) va_s, va_s⟩, same_trans (same_trans (same_up (by simp)) (same_up (by simp))) (same_up (by simp))⟩
  refine w_aload_n d_C_put_0 rfl ?_
  refine w_getf g_C_9 d_C_put_1 h1 rfl (by omega) ?_
  refine w_iload_n d_C_put_4 rfl ?_
  refine w_iload_n d_C_put_5 rfl ?_
  refine w_iast d_C_put_6 h2 rfl hj (by decide) (by omega) ?_
  refine w_aload_n d_C_put_7 rfl ?_
  refine w_getf g_C_15 d_C_put_8 (va_n (by omega) h1) rfl (by omega) ?_
  refine w_iload_n d_C_put_11 rfl ?_
  refine w_iload_n d_C_put_12 rfl ?_
  refine w_iast d_C_put_13 (va_n (by omega) h3) rfl hj (by decide) (by omega) ?_
  refine w_aload_n d_C_put_14 rfl ?_
  refine w_getf g_C_18 d_C_put_15 (va_n (by omega) (va_n (by omega) h1)) rfl (by omega) ?_
  refine w_iload_n d_C_put_18 rfl ?_
  refine w_iload_n d_C_put_19 rfl ?_
  refine w_iconst 1 d_C_put_20 (by decide) ?_
  refine w_icmp_ne 28 d_C_put_21 (by decide) (fun hz => ?_) (fun hz => ?_)
  · -- taken
    refine w_iload d_C_put_28 rfl ?_
    refine w_iast d_C_put_30 (va_n (by omega) (va_n (by omega) h4)) rfl hj (by decide) (by omega) ?_
    exact w_vret d_C_put_31 rfl (⟨rfl, by rw [if_neg hz]; exact fin to⟩)
  · -- not taken
    refine w_iload_n d_C_put_24 rfl ?_
    refine w_goto 30 d_C_put_25 (by decide) ?_
    refine w_iast d_C_put_30 (va_n (by omega) (va_n (by omega) h4)) rfl hj (by decide) (by omega) ?_
    exact w_vret d_C_put_31 rfl (⟨rfl, by rw [if_pos hz]; exact fin fr⟩)
-- one set of conditions is copied into another
theorem c_copyGo {q2 : Nat} {K2 F2 T2 : Nat → Int32} (hq : q < 90) (hq2 : q2 < 90) (hap : q + 3 < q2 ∨ q2 + 3 < q) : ∀ (d j : Nat) (c : Nat → va_E) (K F T : Nat → Int32), j + d = 3 → cnd X a c q K F T → cnd X a c q2 K2 F2 T2 → (∀ i, i < j → K i = K2 i ∧ F i = F2 i ∧ T i = toK K2 F2 T2 i) →
    GW X a m_C_copy 1 24 0 0 2 [(0, .ref (a q)), (1, .ref (a q2)), (2, .int (nI j))] [] c (pV (fun w => (∃ K' F' T', cnd X a w q K' F' T' ∧ ∀ i, i < 3 → K' i = K2 i ∧ F' i = F2 i ∧ T' i = toK K2 F2 T2 i) ∧ same c w [q + 1, q + 2, q + 3])) := by
  intro d
  induction d with
  | zero =>
    intro j c K F T hj hC hC2 hi
    have hj3 : j = 3 := by omega
    subst hj3
    refine w_iload_n d_C_copy_2 rfl ?_
    refine w_iconst 3 d_C_copy_3 (by decide) ?_
    refine w_icmp_ge 36 d_C_copy_4 (by decide) (fun _ => ?_) (fun hn => absurd ((nI_leI (a := 3) (b := 3) (by decide) (by decide)).mpr (by omega)) hn)
    exact w_vret d_C_copy_36 rfl (⟨rfl, ⟨K, F, T, hC, hi⟩, same_rf⟩)
  | succ d ih =>
    intro j c K F T hj hC hC2 hi
    refine w_iload_n d_C_copy_2 rfl ?_
    refine w_iconst 3 d_C_copy_3 (by decide) ?_
    refine w_icmp_ge 36 d_C_copy_4 (by decide) (fun hn => absurd hn (fun z => absurd ((nI_leI (a := 3) (by decide) (by omega)).mp z) (by omega))) (fun _ => ?_)
    refine w_aload_n d_C_copy_7 rfl ?_
    refine w_iload_n d_C_copy_8 rfl ?_
    refine w_aload_n d_C_copy_9 rfl ?_
    refine w_getf g_C_9 d_C_copy_10 hC2.1 rfl (by omega) ?_
    refine w_iload_n d_C_copy_13 rfl ?_
    refine w_iald d_C_copy_14 hC2.2.1 rfl (by omega) (by decide) (by omega) ?_
    refine w_aload_n d_C_copy_15 rfl ?_
    refine w_getf g_C_15 d_C_copy_16 hC2.1 rfl (by omega) ?_
    refine w_iload_n d_C_copy_19 rfl ?_
    refine w_iald d_C_copy_20 hC2.2.2.1 rfl (by omega) (by decide) (by omega) ?_
    refine w_aload_n d_C_copy_21 rfl ?_
    refine w_getf g_C_18 d_C_copy_22 hC2.1 rfl (by omega) ?_
    refine w_iload_n d_C_copy_25 rfl ?_
    refine w_iald d_C_copy_26 hC2.2.2.2 rfl (by omega) (by decide) (by omega) ?_
    refine w_vV [_, _, _, _] c_C_21 d_C_copy_27 rfl hC.1 (by omega) (c_put hC hq (by omega)) (fun w hw => ?_) rfl rfl (gq rfl) (gq rfl) (gq rfl) (gq rfl) (gq rfl) (gq rfl)
    obtain ⟨hC', hs⟩ := hw
    first | refine w_iinc _ d_C_copy_30 rfl (nIinc _) (by decide) ?_ | refine w_iinc _ d_C_copy_30 rfl rfl (by decide) ?_
    refine w_goto 2 d_C_copy_33 (by decide) ?_
    have hC2' : cnd X a w q2 K2 F2 T2 := ⟨(hs q2 (by simp; omega)).trans hC2.1, (hs (q2 + 1) (by simp; omega)).trans hC2.2.1, (hs (q2 + 2) (by simp; omega)).trans hC2.2.2.1, (hs (q2 + 3) (by simp; omega)).trans hC2.2.2.2⟩
    refine w_post (fun r w' hw' => ?_) (ih (j + 1) w _ _ _ (by omega) hC' hC2' (fun i hij => ?_))
    · exact ⟨hw'.1, hw'.2.1, same_trans hs hw'.2.2⟩
    · by_cases e : i = j
      · subst e; exact ⟨pk_us, pk_us, pk_us⟩
      · rw [pk_un e, pk_un e, pk_un e]; exact hi i (by omega)
theorem c_copy {q2 : Nat} {K2 F2 T2 : Nat → Int32} (hq : q < 90) (hq2 : q2 < 90) (hap : q + 3 < q2 ∨ q2 + 3 < q) (hC : cnd X a c q K F T) (hC2 : cnd X a c q2 K2 F2 T2) :
    GW X a m_C_copy 1 24 0 0 0 (lv_args 0 [.ref (a q), .ref (a q2)]) [] c (pV (fun w => (∃ K' F' T', cnd X a w q K' F' T' ∧ ∀ i, i < 3 → K' i = K2 i ∧ F' i = F2 i ∧ T' i = toK K2 F2 T2 i) ∧ same c w [q + 1, q + 2, q + 3])) := by
  refine w_iconst 0 d_C_copy_0 (by decide) ?_
  refine w_istore_n d_C_copy_1 (by decide) ?_
  exact c_copyGo hq hq2 hap 3 0 c K F T rfl hC hC2 (fun i h => absurd h (by omega))
theorem c_kindsCode (hC : cnd X a c q K F T) (hq : q < 90) : GW X a m_C_kindsCode 0 0 0 0 0 (lv_args 0 [.ref (a q)]) [] c (pI (eI (kc K) c)) := by
  obtain ⟨h1, h2, h3, h4⟩ := hC
  refine w_iconst 0 d_C_kindsCode_0 (by decide) ?_
  refine w_istore_n d_C_kindsCode_1 (by decide) ?_
  refine w_iconst 2 d_C_kindsCode_2 (by decide) ?_
  refine w_istore_n d_C_kindsCode_3 (by decide) ?_
  refine w_iload_n d_C_kindsCode_4 rfl ?_
  refine w_if_lt 25 d_C_kindsCode_5 (by decide) (fun hn => absurd hn ((by decide))) (fun _ => ?_)
  refine w_iload_n d_C_kindsCode_8 rfl ?_
  refine w_iconst 3 d_C_kindsCode_9 (by decide) ?_
  refine w_imul d_C_kindsCode_10 ?_
  refine w_aload_n d_C_kindsCode_11 rfl ?_
  refine w_getf g_C_9 d_C_kindsCode_12 h1 rfl (by omega) ?_
  refine w_iload_n d_C_kindsCode_15 rfl ?_
  refine w_iald d_C_kindsCode_16 h2 (show (2 : Int32) = nI 2 from rfl) (by decide) (by decide) (by omega) ?_
  refine w_iadd d_C_kindsCode_17 ?_
  refine w_istore_n d_C_kindsCode_18 (by decide) ?_
  refine w_iinc (1) d_C_kindsCode_19 rfl (by decide) (by decide) ?_
  refine w_goto 4 d_C_kindsCode_22 (by decide) ?_
  refine w_iload_n d_C_kindsCode_4 rfl ?_
  refine w_if_lt 25 d_C_kindsCode_5 (by decide) (fun hn => absurd hn ((by decide))) (fun _ => ?_)
  refine w_iload_n d_C_kindsCode_8 rfl ?_
  refine w_iconst 3 d_C_kindsCode_9 (by decide) ?_
  refine w_imul d_C_kindsCode_10 ?_
  refine w_aload_n d_C_kindsCode_11 rfl ?_
  refine w_getf g_C_9 d_C_kindsCode_12 h1 rfl (by omega) ?_
  refine w_iload_n d_C_kindsCode_15 rfl ?_
  refine w_iald d_C_kindsCode_16 h2 (show (1 : Int32) = nI 1 from rfl) (by decide) (by decide) (by omega) ?_
  refine w_iadd d_C_kindsCode_17 ?_
  refine w_istore_n d_C_kindsCode_18 (by decide) ?_
  refine w_iinc (0) d_C_kindsCode_19 rfl (by decide) (by decide) ?_
  refine w_goto 4 d_C_kindsCode_22 (by decide) ?_
  refine w_iload_n d_C_kindsCode_4 rfl ?_
  refine w_if_lt 25 d_C_kindsCode_5 (by decide) (fun hn => absurd hn ((by decide))) (fun _ => ?_)
  refine w_iload_n d_C_kindsCode_8 rfl ?_
  refine w_iconst 3 d_C_kindsCode_9 (by decide) ?_
  refine w_imul d_C_kindsCode_10 ?_
  refine w_aload_n d_C_kindsCode_11 rfl ?_
  refine w_getf g_C_9 d_C_kindsCode_12 h1 rfl (by omega) ?_
  refine w_iload_n d_C_kindsCode_15 rfl ?_
  refine w_iald d_C_kindsCode_16 h2 (show (0 : Int32) = nI 0 from rfl) (by decide) (by decide) (by omega) ?_
  refine w_iadd d_C_kindsCode_17 ?_
  refine w_istore_n d_C_kindsCode_18 (by decide) ?_
  refine w_iinc (-1) d_C_kindsCode_19 rfl (by decide) (by decide) ?_
  refine w_goto 4 d_C_kindsCode_22 (by decide) ?_
  refine w_iload_n d_C_kindsCode_4 rfl ?_
  refine w_if_lt 25 d_C_kindsCode_5 (by decide) (fun _ => ?_) (fun hn => absurd ((by decide)) hn)
  refine w_iload_n d_C_kindsCode_25 rfl ?_
  exact w_iret d_C_kindsCode_26 rfl (⟨_, rfl, rfl, rfl⟩)
theorem t_add {x y z : Int32} (hT : c 1 = oT a ins rt) (hV : c 2 = aI X 192 v) (hH : c 3 = aZ X 64 h) (hi : ins < 64) :
    GW X a m_T_add 1 23 0 0 0 (lv_args 0 [.ref (a 1), .int x, .int y, .int z]) [] c (pI (fun r w => r = nI ins ∧ w 1 = oT a (ins + 1) (rt + 1) ∧ w 2 = aI X 192 (upd (upd (upd v (3 * ins) x) (3 * ins + 1) y) (3 * ins + 2) z) ∧ w 3 = aZ X 64 (upd h ins 1) ∧ same c w [1, 2, 3])) := by
  refine w_aload_n d_T_add_0 rfl ?_
  refine w_getf g_T_19 d_T_add_1 hT rfl (by decide) ?_
  refine w_istore d_T_add_4 (by decide) ?_
  refine w_aload_n d_T_add_6 rfl ?_
  refine w_dup d_T_add_7 rfl ?_
  refine w_getf g_T_19 d_T_add_8 hT rfl (by decide) ?_
  refine w_iconst 1 d_T_add_11 (by decide) ?_
  refine w_iadd d_T_add_12 ?_
  rw [nI_1]
  refine w_putf p_T_19 d_T_add_13 hT rfl rfl (gqL rfl) (by decide) ?_
  refine w_aload_n d_T_add_16 rfl ?_
  refine w_iload d_T_add_17 rfl ?_
  refine w_iconst 0 d_T_add_19 (by decide) ?_
  refine w_iload_n d_T_add_20 rfl ?_
  refine w_vV [_, _, _] c_T_23 d_T_add_21 rfl rfl (by decide) (t_put (r := ins) (k := 0) (rt := rt) (ins := ins + 1) rfl hV hi (by decide)) (fun w hw => ?_) rfl rfl (gq rfl) (gq rfl) (gq rfl) (gq rfl) (gq rfl) (gq rfl)
  subst hw
  refine w_aload_n d_T_add_24 rfl ?_
  refine w_iload d_T_add_25 rfl ?_
  refine w_iconst 1 d_T_add_27 (by decide) ?_
  refine w_iload_n d_T_add_28 rfl ?_
  refine w_vV [_, _, _] c_T_23 d_T_add_29 rfl rfl (by decide) (t_put (r := ins) (k := 1) (rt := rt) (ins := ins + 1) rfl rfl hi (by decide)) (fun w hw => ?_) rfl rfl (gq rfl) (gq rfl) (gq rfl) (gq rfl) (gq rfl) (gq rfl)
  subst hw
  refine w_aload_n d_T_add_32 rfl ?_
  refine w_iload d_T_add_33 rfl ?_
  refine w_iconst 2 d_T_add_35 (by decide) ?_
  refine w_iload_n d_T_add_36 rfl ?_
  refine w_vV [_, _, _] c_T_23 d_T_add_37 rfl rfl (by decide) (t_put (r := ins) (k := 2) (rt := rt) (ins := ins + 1) rfl rfl hi (by decide)) (fun w hw => ?_) rfl rfl (gq rfl) (gq rfl) (gq rfl) (gq rfl) (gq rfl) (gq rfl)
  subst hw
  refine w_aload_n d_T_add_40 rfl ?_
  refine w_getf g_T_15 d_T_add_41 rfl rfl (by decide) ?_
  refine w_iload d_T_add_44 rfl ?_
  refine w_iconst 1 d_T_add_46 (by decide) ?_
  refine w_zast d_T_add_47 hH rfl hi (by decide) (by decide) (by decide) ?_
  refine w_aload_n d_T_add_48 rfl ?_
  refine w_dup d_T_add_49 rfl ?_
  refine w_getf g_T_27 d_T_add_50 rfl rfl (by decide) ?_
  refine w_iconst 1 d_T_add_53 (by decide) ?_
  refine w_iadd d_T_add_54 ?_
  rw [nI_1]
  refine w_putf p_T_27 d_T_add_55 rfl rfl rfl (gqL rfl) (by decide) ?_
  refine w_iload d_T_add_58 rfl ?_
  exact w_iret d_T_add_60 rfl (⟨_, rfl, rfl, rfl, rfl, rfl, same_trans (same_trans (same_trans (same_trans (same_trans (same_up (by simp)) (same_up (by simp))) (same_up (by simp))) (same_up (by simp))) (same_up (by simp))) (same_up (by simp))⟩)
theorem t_remove {r : Nat} (hT : c 1 = oT a ins (rt + 1)) (hH : c 3 = aZ X 64 h) (hr : r < 64) : GW X a m_T_remove 0 0 0 0 0 (lv_args 0 [.ref (a 1), .int (nI r)]) [] c (pV (fun w => w 1 = oT a ins rt ∧ w 3 = aZ X 64 (upd h r 0) ∧ same c w [1, 3])) := by
  refine w_aload_n d_T_remove_0 rfl ?_
  refine w_getf g_T_15 d_T_remove_1 hT rfl (by decide) ?_
  refine w_iload_n d_T_remove_4 rfl ?_
  refine w_iconst 0 d_T_remove_5 (by decide) ?_
  refine w_zast d_T_remove_6 hH rfl hr (by decide) (by decide) (by decide) ?_
  refine w_aload_n d_T_remove_7 rfl ?_
  refine w_dup d_T_remove_8 rfl ?_
  refine w_getf g_T_27 d_T_remove_9 hT rfl (by decide) ?_
  refine w_iconst 1 d_T_remove_12 (by decide) ?_
  refine w_isub d_T_remove_13 ?_
  rw [nI_pred]
  refine w_putf p_T_27 d_T_remove_14 hT rfl rfl (gqL rfl) (by decide) ?_
  exact w_vret d_T_remove_17 rfl (⟨rfl, rfl, rfl, same_trans (same_up (by simp)) (same_up (by simp))⟩)
end CN
end
section
/-! Table.firstEntry; Stretch -/
def fN (i : Nat) : Nat := ([0, 1, 2, 0, 0, 1, 1, 2, 2] : List Nat).getD i 0
def scol (i : Nat) : Int32 := ([-1, -1, -1, 1, 2, 0, 2, 0, 1] : List Int32).getD i 0
theorem fN_lt {i : Nat} (h : i < 9) : fN i < 3 := by revert i; decide
theorem fN_col {i : Nat} (h : i < 9) : ([0, 1, 2, 0, 0, 1, 1, 2, 2] : List Int32).getD i 0 = nI (fN i) := by revert i; decide
theorem scol_col {i : Nat} (h : i < 9) : isCol (scol i) := by
  have key : ∀ i, i < 9 → scol i = -1 ∨ scol i = nI 0 ∨ scol i = nI 1 ∨ scol i = nI 2 := by decide
  rcases key i h with e | e | e | e
  · exact Or.inl e
  · exact Or.inr ⟨0, by decide, e⟩
  · exact Or.inr ⟨1, by decide, e⟩
  · exact Or.inr ⟨2, by decide, e⟩
abbrev oS (a : Nat → Nat) (f g : Int32) (sc : Bool) (bf : Nat) : va_E := .inr (3, [.ref (a 1), .ref (a 9), .int f, .int g, .int (bI sc), .int (nI bf)])
def befB (v F : Nat → Int32) (f g : Int32) (sc : Bool) (r : Nat) : Bool := decide (colV v r f < F f.toNatClampNeg) || (sc && (decide (colV v r f = F f.toNatClampNeg) && decide (colV v r g < F g.toNatClampNeg)))
def insB (K F T v : Nat → Int32) (f g : Int32) (sc : Bool) (r : Nat) : Bool := fitB K F T f.toNatClampNeg (colV v r f) && (!sc || fitB K F T g.toNatClampNeg (colV v r g))
def liveL (h : Nat → Int32) (k : Nat) : List Nat := (List.range k).filter (fun r => decide (¬ h r = 0))
theorem liveL_s {h : Nat → Int32} {k : Nat} : liveL h (k + 1) = if h k = 0 then liveL h k else liveL h k ++ [k] := by
  unfold liveL
  rw [List.range_succ, List.filter_append]
  by_cases e : h k = 0
  · rw [if_pos e]; simp [e]
  · rw [if_neg e]; simp [e]
theorem liveL_lt {h : Nat → Int32} {k r : Nat} (hr : r ∈ liveL h k) : r < k := List.mem_range.mp (List.mem_filter.mp hr).1
theorem liveL_len (h : Nat → Int32) (k : Nat) : (liveL h k).length ≤ k := by
  have := List.length_filter_le (fun r => decide (¬ h r = 0)) (List.range k)
  rw [List.length_range] at this
  exact this
def secB (K : Nat → Int32) (i : Nat) : Bool := decide (¬ scol i = -1) && (decide (K (fN i) = 1) && decide (¬ K (scol i).toNatClampNeg = 0))
theorem secB_col {K : Nat → Int32} {i : Nat} (hi : i < 9) (h : secB K i = true) : ∃ j, j < 3 ∧ scol i = nI j := by
  unfold secB at h
  rw [Bool.and_eq_true] at h
  rcases scol_col hi with e | ⟨j, hj, e⟩
  · rw [e] at h; exact absurd h.1 (by decide)
  · exact ⟨j, hj, e⟩
-- the rows of an index's stretch, and how many stand ahead of it
abbrev stB (v F K : Nat → Int32) (i r : Nat) : Bool := befB v F (nI (fN i)) (scol i) (secB K i) r
abbrev stI (v K F T : Nat → Int32) (i r : Nat) : Bool := !stB v F K i r && insB K F T v (nI (fN i)) (scol i) (secB K i) r
theorem colV_n {v : Nat → Int32} {r j : Nat} (h : j < 3) : colV v r (nI j) = v (3 * r + j) := by
  rw [colV, if_neg (nI_neg (by omega)), nI_clamp (by omega)]
theorem nI_c {j : Nat} (h : j < 3) : (nI j).toNatClampNeg = j := nI_clamp (by omega)
theorem feGo_lt {h : Nat → Int32} {gt : Nat → Nat → Bool} : ∀ {k l : Nat}, feGo h gt k = some l → l < k
  | 0, l, e => by cases e
  | k + 1, l, e => by
    unfold feGo at e
    split at e
    · have := feGo_lt e; omega
    · split at e
      · cases e; omega
      · rename_i l' hl
        have := feGo_lt hl
        split at e
        · cases e; omega
        · cases e; omega
section ST
variable {X : gX} {a : Nat → Nat} {c : Nat → va_E} {ins rt : Nat} {v h : Nat → Int32} {K F T : Nat → Int32} {q : Nat}
theorem t_feGo {f g : Int32} (hT : c 1 = oT a ins rt) (hV : c 2 = aI X 192 v) (hH : c 3 = aZ X 64 h) (hi : ins ≤ 64) (hf : isCol f) (hg : isCol g) : ∀ (d k : Nat), k + d = ins →
    GW X a m_T_firstEntry 3 70 0 0 5 [(0, .ref (a 1)), (1, .int f), (2, .int g), (3, .int (oI (feGo h (gtv v f g) k))), (4, .int (nI k))] [] c (pI (eI (oI (feGo h (gtv v f g) ins)) c)) := by
  intro d
  induction d with
  | zero =>
    intro k hk
    have e : k = ins := by omega
    subst e
    refine w_iload d_T_firstEntry_5 rfl ?_
    refine w_aload_n d_T_firstEntry_7 rfl ?_
    refine w_getf g_T_19 d_T_firstEntry_8 hT rfl (by decide) ?_
    refine w_icmp_ge 50 d_T_firstEntry_11 (by decide) (fun _ => ?_) (fun hn => absurd ((nI_leI (by omega) (by omega)).mpr (by omega)) hn)
    refine w_iload_n d_T_firstEntry_50 rfl ?_
    exact w_iret d_T_firstEntry_51 rfl (⟨_, rfl, rfl, rfl⟩)
  | succ d ih =>
    intro k hk
    have key := ih (k + 1) (by omega)
    refine w_iload d_T_firstEntry_5 rfl ?_
    refine w_aload_n d_T_firstEntry_7 rfl ?_
    refine w_getf g_T_19 d_T_firstEntry_8 hT rfl (by decide) ?_
    refine w_icmp_ge 50 d_T_firstEntry_11 (by decide) (fun hn => absurd hn (fun z => absurd ((nI_leI (by omega) (by omega)).mp z) (by omega))) (fun _ => ?_)
    refine w_aload_n d_T_firstEntry_14 rfl ?_
    refine w_getf g_T_15 d_T_firstEntry_15 hT rfl (by decide) ?_
    refine w_iload d_T_firstEntry_18 rfl ?_
    refine w_zald d_T_firstEntry_20 hH rfl (by omega) (by decide) (by decide) ?_
    refine w_if_eq 44 d_T_firstEntry_21 (by decide) (fun hz => ?_) (fun hz => ?_)
    · -- taken
      have e : feGo h (gtv v f g) (k + 1) = feGo h (gtv v f g) k := by rw [feGo, if_pos hz]
      rw [e] at key
      first | refine w_iinc _ d_T_firstEntry_44 rfl (nIinc _) (by decide) ?_ | refine w_iinc _ d_T_firstEntry_44 rfl rfl (by decide) ?_
      refine w_goto 5 d_T_firstEntry_47 (by decide) ?_
      exact key
    · -- not taken
      rcases ho : feGo h (gtv v f g) k with _ | l
      · -- case
        have e : feGo h (gtv v f g) (k + 1) = some k := by rw [feGo, if_neg hz, ho]
        rw [e] at key
        refine w_iload_n d_T_firstEntry_24 rfl ?_
        refine w_iconst (-1) d_T_firstEntry_25 (by decide) ?_
        refine w_icmp_eq 41 d_T_firstEntry_26 (by decide) (fun _ => ?_) (fun hn => absurd (rfl) hn)
        refine w_iload d_T_firstEntry_41 rfl ?_
        refine w_istore_n d_T_firstEntry_43 (by decide) ?_
        first | refine w_iinc _ d_T_firstEntry_44 rfl (nIinc _) (by decide) ?_ | refine w_iinc _ d_T_firstEntry_44 rfl rfl (by decide) ?_
        refine w_goto 5 d_T_firstEntry_47 (by decide) ?_
        exact key
      · -- case
        have hl := feGo_lt ho
        refine w_iload_n d_T_firstEntry_24 rfl ?_
        refine w_iconst (-1) d_T_firstEntry_25 (by decide) ?_
        refine w_icmp_eq 41 d_T_firstEntry_26 (by decide) (fun hn => absurd hn ((nI_neg (by omega)))) (fun _ => ?_)
        refine w_aload_n d_T_firstEntry_29 rfl ?_
        refine w_iload_n d_T_firstEntry_30 rfl ?_
        refine w_iload d_T_firstEntry_31 rfl ?_
        refine w_iload_n d_T_firstEntry_33 rfl ?_
        refine w_iload_n d_T_firstEntry_34 rfl ?_
        refine w_vI [_, _, _, _] c_T_47 d_T_firstEntry_35 rfl hT (by decide) (t_isAfter (r := l) (o := k) hT hV (by omega) (by omega) hf hg) (fun x w hw => ?_) rfl rfl (gq rfl) (gq rfl) (gq rfl) (gq rfl) (gq rfl) (gq rfl)
        obtain ⟨rfl, rfl⟩ := hw
        refine w_if_eq 44 d_T_firstEntry_38 (by decide) (fun hb => ?_) (fun hb => ?_)
        · -- taken
          have e : feGo h (gtv v f g) (k + 1) = some l := by rw [feGo, if_neg hz, ho]; simp [bI_t.mp hb]
          rw [e] at key
          first | refine w_iinc _ d_T_firstEntry_44 rfl (nIinc _) (by decide) ?_ | refine w_iinc _ d_T_firstEntry_44 rfl rfl (by decide) ?_
          refine w_goto 5 d_T_firstEntry_47 (by decide) ?_
          exact key
        · -- not taken
          have e : feGo h (gtv v f g) (k + 1) = some k := by rw [feGo, if_neg hz, ho]; simp [bI_n.mp hb]
          rw [e] at key
          refine w_iload d_T_firstEntry_41 rfl ?_
          refine w_istore_n d_T_firstEntry_43 (by decide) ?_
          first | refine w_iinc _ d_T_firstEntry_44 rfl (nIinc _) (by decide) ?_ | refine w_iinc _ d_T_firstEntry_44 rfl rfl (by decide) ?_
          refine w_goto 5 d_T_firstEntry_47 (by decide) ?_
          exact key
theorem t_firstEntry {f g : Int32} (hT : c 1 = oT a ins rt) (hV : c 2 = aI X 192 v) (hH : c 3 = aZ X 64 h) (hi : ins ≤ 64) (hf : isCol f) (hg : isCol g) : GW X a m_T_firstEntry 3 70 0 0 0 (lv_args 0 [.ref (a 1), .int f, .int g]) [] c (pI (eI (oI (feGo h (gtv v f g) ins)) c)) := by
  refine w_iconst (-1) d_T_firstEntry_0 (by decide) ?_
  refine w_istore_n d_T_firstEntry_1 (by decide) ?_
  refine w_iconst 0 d_T_firstEntry_2 (by decide) ?_
  refine w_istore d_T_firstEntry_3 (by decide) ?_
  exact t_feGo hT hV hH hi hf hg ins 0 (by omega)
theorem s_isBefore {jf r bf : Nat} {g : Int32} {sc : Bool} (hS : c 8 = oS a (nI jf) g sc bf) (hT : c 1 = oT a ins rt) (hV : c 2 = aI X 192 v) (hC : cnd X a c q K F T) (hq : q < 90) (hr : r < 64) (hjf : jf < 3) (hsc : sc = true → ∃ j, j < 3 ∧ g = nI j) :
    GW X a m_S_isBefore 1 22 0 0 0 (lv_args 0 [.ref (a 8), .ref (a q), .int (nI r)]) [] c (pI (eI (bI (befB v F (nI jf) g sc r)) c)) := by
  obtain ⟨h1, h2, h3, h4⟩ := hC
  have e0 : befB v F (nI jf) g sc r = (decide (v (3 * r + jf) < F jf) || (sc && (decide (v (3 * r + jf) = F jf) && decide (colV v r g < F g.toNatClampNeg)))) := by rw [befB, colV_n hjf, nI_c hjf]
  rw [e0]
  refine w_aload_n d_S_isBefore_0 rfl ?_
  refine w_getf g_S_18 d_S_isBefore_1 hS rfl (by decide) ?_
  refine w_iload_n d_S_isBefore_4 rfl ?_
  refine w_aload_n d_S_isBefore_5 rfl ?_
  refine w_getf g_S_26 d_S_isBefore_6 hS rfl (by decide) ?_
  refine w_vI [_, _] c_S_79 d_S_isBefore_9 rfl hT (by decide) (t_at hT hV hr hjf) (fun x w hw => ?_) rfl rfl (gq rfl) (gq rfl) (gq rfl) (gq rfl) (gq rfl) (gq rfl)
  obtain ⟨rfl, rfl⟩ := hw
  refine w_istore_n d_S_isBefore_12 (by decide) ?_
  refine w_aload_n d_S_isBefore_13 rfl ?_
  refine w_getf g_S_83 d_S_isBefore_14 h1 rfl (by omega) ?_
  refine w_aload_n d_S_isBefore_17 rfl ?_
  refine w_getf g_S_26 d_S_isBefore_18 hS rfl (by decide) ?_
  refine w_iald d_S_isBefore_21 h3 rfl hjf (by decide) (by omega) ?_
  refine w_istore d_S_isBefore_22 (by decide) ?_
  refine w_iload_n d_S_isBefore_24 rfl ?_
  refine w_iload d_S_isBefore_25 rfl ?_
  refine w_icmp_lt 67 d_S_isBefore_27 (by decide) (fun hl => ?_) (fun hl => ?_)
  · -- taken
    refine w_iconst 1 d_S_isBefore_67 (by decide) ?_
    refine w_goto 72 d_S_isBefore_68 (by decide) ?_
    exact w_zret (by first | exact Or.inl rfl | exact Or.inr rfl) d_S_isBefore_72 rfl (⟨_, rfl, by rw [decide_eq_true hl]; rfl, rfl⟩)
  · -- not taken
    refine w_aload_n d_S_isBefore_30 rfl ?_
    refine w_getf g_S_45 d_S_isBefore_31 hS rfl (by decide) ?_
    refine w_if_eq 71 d_S_isBefore_34 (by decide) (fun hs => ?_) (fun hs => ?_)
    · -- taken
      refine w_iconst 0 d_S_isBefore_71 (by decide) ?_
      exact w_zret (by first | exact Or.inl rfl | exact Or.inr rfl) d_S_isBefore_72 rfl (⟨_, rfl, by rw [decide_eq_false hl, bI_t.mp hs]; rfl, rfl⟩)
    · -- not taken
      have hs' := bI_n.mp hs
      obtain ⟨jg, hjg, rfl⟩ := hsc hs'
      refine w_iload_n d_S_isBefore_37 rfl ?_
      refine w_iload d_S_isBefore_38 rfl ?_
      refine w_icmp_ne 71 d_S_isBefore_40 (by decide) (fun he => ?_) (fun he => ?_)
      · -- taken
        refine w_iconst 0 d_S_isBefore_71 (by decide) ?_
        exact w_zret (by first | exact Or.inl rfl | exact Or.inr rfl) d_S_isBefore_72 rfl (⟨_, rfl, by rw [decide_eq_false hl, decide_eq_false he, hs']; rfl, rfl⟩)
      · -- not taken
        refine w_aload_n d_S_isBefore_43 rfl ?_
        refine w_getf g_S_18 d_S_isBefore_44 hS rfl (by decide) ?_
        refine w_iload_n d_S_isBefore_47 rfl ?_
        refine w_aload_n d_S_isBefore_48 rfl ?_
        refine w_getf g_S_33 d_S_isBefore_49 hS rfl (by decide) ?_
        refine w_vI [_, _] c_S_79 d_S_isBefore_52 rfl hT (by decide) (t_at hT hV hr hjg) (fun x w hw => ?_) rfl rfl (gq rfl) (gq rfl) (gq rfl) (gq rfl) (gq rfl) (gq rfl)
        obtain ⟨rfl, rfl⟩ := hw
        refine w_aload_n d_S_isBefore_55 rfl ?_
        refine w_getf g_S_83 d_S_isBefore_56 h1 rfl (by omega) ?_
        refine w_aload_n d_S_isBefore_59 rfl ?_
        refine w_getf g_S_33 d_S_isBefore_60 hS rfl (by decide) ?_
        refine w_iald d_S_isBefore_63 h3 rfl hjg (by decide) (by omega) ?_
        rw [colV_n hjg, nI_c hjg]
        refine w_icmp_ge 71 d_S_isBefore_64 (by decide) (fun hm => ?_) (fun hm => ?_)
        · -- taken
          refine w_iconst 0 d_S_isBefore_71 (by decide) ?_
          exact w_zret (by first | exact Or.inl rfl | exact Or.inr rfl) d_S_isBefore_72 rfl (⟨_, rfl, by rw [decide_eq_false hl, decide_eq_true he, hs', decide_eq_false (Int32.not_lt.mpr hm)]; rfl, rfl⟩)
        · -- not taken
          refine w_iconst 1 d_S_isBefore_67 (by decide) ?_
          refine w_goto 72 d_S_isBefore_68 (by decide) ?_
          exact w_zret (by first | exact Or.inl rfl | exact Or.inr rfl) d_S_isBefore_72 rfl (⟨_, rfl, by rw [decide_eq_false hl, decide_eq_true he, hs', decide_eq_true (Int32.not_le.mp hm)]; rfl, rfl⟩)
theorem s_isInside {jf r bf : Nat} {g : Int32} {sc : Bool} (hS : c 8 = oS a (nI jf) g sc bf) (hT : c 1 = oT a ins rt) (hV : c 2 = aI X 192 v) (hC : cnd X a c q K F T) (hq : q < 90) (hr : r < 64) (hjf : jf < 3) (hsc : sc = true → ∃ j, j < 3 ∧ g = nI j) :
    GW X a m_S_isInside 1 22 0 0 0 (lv_args 0 [.ref (a 8), .ref (a q), .int (nI r)]) [] c (pI (eI (bI (insB K F T v (nI jf) g sc r)) c)) := by
  have e0 : insB K F T v (nI jf) g sc r = (fitB K F T jf (v (3 * r + jf)) && (!sc || fitB K F T g.toNatClampNeg (colV v r g))) := by rw [insB, colV_n hjf, nI_c hjf]
  rw [e0]
  refine w_aload_n d_S_isInside_0 rfl ?_
  refine w_aload_n d_S_isInside_1 rfl ?_
  refine w_getf g_S_26 d_S_isInside_2 hS rfl (by decide) ?_
  refine w_aload_n d_S_isInside_5 rfl ?_
  refine w_getf g_S_18 d_S_isInside_6 hS rfl (by decide) ?_
  refine w_iload_n d_S_isInside_9 rfl ?_
  refine w_aload_n d_S_isInside_10 rfl ?_
  refine w_getf g_S_26 d_S_isInside_11 hS rfl (by decide) ?_
  refine w_vI [_, _] c_S_79 d_S_isInside_14 rfl hT (by decide) (t_at hT hV hr hjf) (fun x w hw => ?_) rfl rfl (gq rfl) (gq rfl) (gq rfl) (gq rfl) (gq rfl) (gq rfl)
  obtain ⟨rfl, rfl⟩ := hw
  refine w_vI [_, _] c_S_86 d_S_isInside_17 rfl hC.1 (by omega) (c_fit hC hq hjf) (fun x w hw => ?_) rfl rfl (gq rfl) (gq rfl) (gq rfl) (gq rfl) (gq rfl) (gq rfl)
  obtain ⟨rfl, rfl⟩ := hw
  refine w_if_eq 57 d_S_isInside_20 (by decide) (fun hl => ?_) (fun hl => ?_)
  · -- taken
    refine w_iconst 0 d_S_isInside_57 (by decide) ?_
    exact w_zret (by first | exact Or.inl rfl | exact Or.inr rfl) d_S_isInside_58 rfl (⟨_, rfl, by rw [bI_t.mp hl]; rfl, rfl⟩)
  · -- not taken
    rw [bI_n.mp hl]
    refine w_aload_n d_S_isInside_23 rfl ?_
    refine w_getf g_S_45 d_S_isInside_24 hS rfl (by decide) ?_
    refine w_if_eq 53 d_S_isInside_27 (by decide) (fun hs => ?_) (fun hs => ?_)
    · -- taken
      refine w_iconst 1 d_S_isInside_53 (by decide) ?_
      refine w_goto 58 d_S_isInside_54 (by decide) ?_
      exact w_zret (by first | exact Or.inl rfl | exact Or.inr rfl) d_S_isInside_58 rfl (⟨_, rfl, by rw [bI_t.mp hs]; rfl, rfl⟩)
    · -- not taken
      have hs' := bI_n.mp hs
      obtain ⟨jg, hjg, rfl⟩ := hsc hs'
      refine w_aload_n d_S_isInside_30 rfl ?_
      refine w_aload_n d_S_isInside_31 rfl ?_
      refine w_getf g_S_33 d_S_isInside_32 hS rfl (by decide) ?_
      refine w_aload_n d_S_isInside_35 rfl ?_
      refine w_getf g_S_18 d_S_isInside_36 hS rfl (by decide) ?_
      refine w_iload_n d_S_isInside_39 rfl ?_
      refine w_aload_n d_S_isInside_40 rfl ?_
      refine w_getf g_S_33 d_S_isInside_41 hS rfl (by decide) ?_
      refine w_vI [_, _] c_S_79 d_S_isInside_44 rfl hT (by decide) (t_at hT hV hr hjg) (fun x w hw => ?_) rfl rfl (gq rfl) (gq rfl) (gq rfl) (gq rfl) (gq rfl) (gq rfl)
      obtain ⟨rfl, rfl⟩ := hw
      refine w_vI [_, _] c_S_86 d_S_isInside_47 rfl hC.1 (by omega) (c_fit hC hq hjg) (fun x w hw => ?_) rfl rfl (gq rfl) (gq rfl) (gq rfl) (gq rfl) (gq rfl) (gq rfl)
      obtain ⟨rfl, rfl⟩ := hw
      rw [colV_n hjg, nI_c hjg]
      refine w_if_eq 57 d_S_isInside_50 (by decide) (fun hm => ?_) (fun hm => ?_)
      · -- taken
        refine w_iconst 0 d_S_isInside_57 (by decide) ?_
        exact w_zret (by first | exact Or.inl rfl | exact Or.inr rfl) d_S_isInside_58 rfl (⟨_, rfl, by rw [hs', bI_t.mp hm]; rfl, rfl⟩)
      · -- not taken
        refine w_iconst 1 d_S_isInside_53 (by decide) ?_
        refine w_goto 58 d_S_isInside_54 (by decide) ?_
        exact w_zret (by first | exact Or.inl rfl | exact Or.inr rfl) d_S_isInside_58 rfl (⟨_, rfl, by rw [hs', bI_n.mp hm]; rfl, rfl⟩)
end ST
end
