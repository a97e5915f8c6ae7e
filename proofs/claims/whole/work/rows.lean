section
-- ===== PART A: goes FIRST, ahead of the names: the tables' words, and 'selects' of the private methods out of them =====
/-- a private method of a class that the tables say can be made, by its rows of tables_1 -/
def lw_okq (q : MethodName × Nat) : Prop := (q.1.cls ≠ "java/lang/invoke/MethodHandle" ∧ q.1.cls ≠ "java/lang/invoke/VarHandle") ∧ Cond.instantiable q.1.cls q.2 ∈ tables_1 ∧ Cond.privateMethod q.1 ∈ tables_1 ∧ Cond.instanceMethod q.1 ∈ tables_1
theorem lw_p0 : lw_okq (⟨"SelfArranger", "takeCheapestWay", "()V"⟩, 14) := ⟨⟨by decide +kernel, by decide +kernel⟩, List.mem_of_getElem? (i := 23) (by decide +kernel), List.mem_of_getElem? (i := 298) (by decide +kernel), List.mem_of_getElem? (i := 299) (by decide +kernel)⟩
theorem lw_p1 : lw_okq (⟨"SelfArranger$WayCosts", "measure", "(LSelfArranger$Table;LSelfArranger$Stretch;LSelfArranger$Conditions;)V"⟩, 2) := ⟨⟨by decide +kernel, by decide +kernel⟩, List.mem_of_getElem? (i := 117) (by decide +kernel), List.mem_of_getElem? (i := 302) (by decide +kernel), List.mem_of_getElem? (i := 303) (by decide +kernel)⟩
theorem lw_p2 : lw_okq (⟨"SelfArranger$Table", "heapPages", "()I"⟩, 4) := ⟨⟨by decide +kernel, by decide +kernel⟩, List.mem_of_getElem? (i := 31) (by decide +kernel), List.mem_of_getElem? (i := 306) (by decide +kernel), List.mem_of_getElem? (i := 307) (by decide +kernel)⟩
theorem lw_p3 : lw_okq (⟨"SelfArranger$Conditions", "binds", "(I)Z"⟩, 3) := ⟨⟨by decide +kernel, by decide +kernel⟩, List.mem_of_getElem? (i := 57) (by decide +kernel), List.mem_of_getElem? (i := 315) (by decide +kernel), List.mem_of_getElem? (i := 316) (by decide +kernel)⟩
theorem lw_p4 : lw_okq (⟨"SelfArranger$Stretch", "lay", "(LSelfArranger$Conditions;I)V"⟩, 6) := ⟨⟨by decide +kernel, by decide +kernel⟩, List.mem_of_getElem? (i := 75) (by decide +kernel), List.mem_of_getElem? (i := 319) (by decide +kernel), List.mem_of_getElem? (i := 320) (by decide +kernel)⟩
theorem lw_p5 : lw_okq (⟨"SelfArranger$Stretch", "place", "(LSelfArranger$Conditions;I)V"⟩, 6) := ⟨⟨by decide +kernel, by decide +kernel⟩, List.mem_of_getElem? (i := 75) (by decide +kernel), List.mem_of_getElem? (i := 327) (by decide +kernel), List.mem_of_getElem? (i := 328) (by decide +kernel)⟩
theorem lw_p6 : lw_okq (⟨"SelfArranger$Stretch", "isBefore", "(LSelfArranger$Conditions;I)Z"⟩, 6) := ⟨⟨by decide +kernel, by decide +kernel⟩, List.mem_of_getElem? (i := 75) (by decide +kernel), List.mem_of_getElem? (i := 331) (by decide +kernel), List.mem_of_getElem? (i := 332) (by decide +kernel)⟩
theorem lw_p7 : lw_okq (⟨"SelfArranger$Table", "at", "(II)I"⟩, 4) := ⟨⟨by decide +kernel, by decide +kernel⟩, List.mem_of_getElem? (i := 31) (by decide +kernel), List.mem_of_getElem? (i := 335) (by decide +kernel), List.mem_of_getElem? (i := 336) (by decide +kernel)⟩
theorem lw_p8 : lw_okq (⟨"SelfArranger$Stretch", "isInside", "(LSelfArranger$Conditions;I)Z"⟩, 6) := ⟨⟨by decide +kernel, by decide +kernel⟩, List.mem_of_getElem? (i := 75) (by decide +kernel), List.mem_of_getElem? (i := 339) (by decide +kernel), List.mem_of_getElem? (i := 340) (by decide +kernel)⟩
theorem lw_p9 : lw_okq (⟨"SelfArranger$Conditions", "fit", "(II)Z"⟩, 3) := ⟨⟨by decide +kernel, by decide +kernel⟩, List.mem_of_getElem? (i := 57) (by decide +kernel), List.mem_of_getElem? (i := 343) (by decide +kernel), List.mem_of_getElem? (i := 344) (by decide +kernel)⟩
theorem lw_p10 : lw_okq (⟨"SelfArranger$RowList", "append", "(I)V"⟩, 2) := ⟨⟨by decide +kernel, by decide +kernel⟩, List.mem_of_getElem? (i := 81) (by decide +kernel), List.mem_of_getElem? (i := 347) (by decide +kernel), List.mem_of_getElem? (i := 348) (by decide +kernel)⟩
theorem lw_p11 : lw_okq (⟨"SelfArranger$Stretch", "pages", "()I"⟩, 6) := ⟨⟨by decide +kernel, by decide +kernel⟩, List.mem_of_getElem? (i := 75) (by decide +kernel), List.mem_of_getElem? (i := 351) (by decide +kernel), List.mem_of_getElem? (i := 352) (by decide +kernel)⟩
theorem lw_p12 : lw_okq (⟨"SelfArranger$Table", "indexHeight", "()I"⟩, 4) := ⟨⟨by decide +kernel, by decide +kernel⟩, List.mem_of_getElem? (i := 31) (by decide +kernel), List.mem_of_getElem? (i := 355) (by decide +kernel), List.mem_of_getElem? (i := 356) (by decide +kernel)⟩
theorem lw_p13 : lw_okq (⟨"SelfArranger$Table", "indexLeaves", "()I"⟩, 4) := ⟨⟨by decide +kernel, by decide +kernel⟩, List.mem_of_getElem? (i := 31) (by decide +kernel), List.mem_of_getElem? (i := 359) (by decide +kernel), List.mem_of_getElem? (i := 360) (by decide +kernel)⟩
theorem lw_p14 : lw_okq (⟨"SelfArranger$Stretch", "leaves", "()I"⟩, 6) := ⟨⟨by decide +kernel, by decide +kernel⟩, List.mem_of_getElem? (i := 75) (by decide +kernel), List.mem_of_getElem? (i := 364) (by decide +kernel), List.mem_of_getElem? (i := 365) (by decide +kernel)⟩
theorem lw_p15 : lw_okq (⟨"SelfArranger$Builder", "readySet", "()I"⟩, 5) := ⟨⟨by decide +kernel, by decide +kernel⟩, List.mem_of_getElem? (i := 226) (by decide +kernel), List.mem_of_getElem? (i := 368) (by decide +kernel), List.mem_of_getElem? (i := 369) (by decide +kernel)⟩
def lw_privs_1 : List (MethodName × Nat) := [(⟨"SelfArranger", "takeCheapestWay", "()V"⟩, 14), (⟨"SelfArranger$WayCosts", "measure", "(LSelfArranger$Table;LSelfArranger$Stretch;LSelfArranger$Conditions;)V"⟩, 2), (⟨"SelfArranger$Table", "heapPages", "()I"⟩, 4), (⟨"SelfArranger$Conditions", "binds", "(I)Z"⟩, 3), (⟨"SelfArranger$Stretch", "lay", "(LSelfArranger$Conditions;I)V"⟩, 6), (⟨"SelfArranger$Stretch", "place", "(LSelfArranger$Conditions;I)V"⟩, 6), (⟨"SelfArranger$Stretch", "isBefore", "(LSelfArranger$Conditions;I)Z"⟩, 6), (⟨"SelfArranger$Table", "at", "(II)I"⟩, 4), (⟨"SelfArranger$Stretch", "isInside", "(LSelfArranger$Conditions;I)Z"⟩, 6), (⟨"SelfArranger$Conditions", "fit", "(II)Z"⟩, 3), (⟨"SelfArranger$RowList", "append", "(I)V"⟩, 2), (⟨"SelfArranger$Stretch", "pages", "()I"⟩, 6), (⟨"SelfArranger$Table", "indexHeight", "()I"⟩, 4), (⟨"SelfArranger$Table", "indexLeaves", "()I"⟩, 4), (⟨"SelfArranger$Stretch", "leaves", "()I"⟩, 6), (⟨"SelfArranger$Builder", "readySet", "()I"⟩, 5)]
theorem lw_r1 : ∀ q ∈ lw_privs_1, lw_okq q := List.forall_mem_cons.mpr ⟨lw_p0, List.forall_mem_cons.mpr ⟨lw_p1, List.forall_mem_cons.mpr ⟨lw_p2, List.forall_mem_cons.mpr ⟨lw_p3, List.forall_mem_cons.mpr ⟨lw_p4, List.forall_mem_cons.mpr ⟨lw_p5, List.forall_mem_cons.mpr ⟨lw_p6, List.forall_mem_cons.mpr ⟨lw_p7, List.forall_mem_cons.mpr ⟨lw_p8, List.forall_mem_cons.mpr ⟨lw_p9, List.forall_mem_cons.mpr ⟨lw_p10, List.forall_mem_cons.mpr ⟨lw_p11, List.forall_mem_cons.mpr ⟨lw_p12, List.forall_mem_cons.mpr ⟨lw_p13, List.forall_mem_cons.mpr ⟨lw_p14, List.forall_mem_cons.mpr ⟨lw_p15, fun _ h => absurd h List.not_mem_nil⟩⟩⟩⟩⟩⟩⟩⟩⟩⟩⟩⟩⟩⟩⟩⟩
theorem lw_p16 : lw_okq (⟨"SelfArranger$WayCosts", "cheapest", "(I)I"⟩, 2) := ⟨⟨by decide +kernel, by decide +kernel⟩, List.mem_of_getElem? (i := 117) (by decide +kernel), List.mem_of_getElem? (i := 372) (by decide +kernel), List.mem_of_getElem? (i := 373) (by decide +kernel)⟩
theorem lw_p17 : lw_okq (⟨"SelfArranger$WayCosts", "at", "(I)I"⟩, 2) := ⟨⟨by decide +kernel, by decide +kernel⟩, List.mem_of_getElem? (i := 117) (by decide +kernel), List.mem_of_getElem? (i := 376) (by decide +kernel), List.mem_of_getElem? (i := 377) (by decide +kernel)⟩
theorem lw_p18 : lw_okq (⟨"SelfArranger", "touchPages", "()V"⟩, 14) := ⟨⟨by decide +kernel, by decide +kernel⟩, List.mem_of_getElem? (i := 23) (by decide +kernel), List.mem_of_getElem? (i := 381) (by decide +kernel), List.mem_of_getElem? (i := 382) (by decide +kernel)⟩
theorem lw_p19 : lw_okq (⟨"SelfArranger$Pool", "countAnew", "()V"⟩, 5) := ⟨⟨by decide +kernel, by decide +kernel⟩, List.mem_of_getElem? (i := 130) (by decide +kernel), List.mem_of_getElem? (i := 385) (by decide +kernel), List.mem_of_getElem? (i := 386) (by decide +kernel)⟩
theorem lw_p20 : lw_okq (⟨"SelfArranger", "touchHeap", "()V"⟩, 14) := ⟨⟨by decide +kernel, by decide +kernel⟩, List.mem_of_getElem? (i := 23) (by decide +kernel), List.mem_of_getElem? (i := 389) (by decide +kernel), List.mem_of_getElem? (i := 390) (by decide +kernel)⟩
theorem lw_p21 : lw_okq (⟨"SelfArranger$Pool", "touch", "(III)V"⟩, 5) := ⟨⟨by decide +kernel, by decide +kernel⟩, List.mem_of_getElem? (i := 130) (by decide +kernel), List.mem_of_getElem? (i := 394) (by decide +kernel), List.mem_of_getElem? (i := 395) (by decide +kernel)⟩
theorem lw_p22 : lw_okq (⟨"SelfArranger$Pool", "frameOf", "(I)I"⟩, 5) := ⟨⟨by decide +kernel, by decide +kernel⟩, List.mem_of_getElem? (i := 130) (by decide +kernel), List.mem_of_getElem? (i := 398) (by decide +kernel), List.mem_of_getElem? (i := 399) (by decide +kernel)⟩
theorem lw_p23 : lw_okq (⟨"SelfArranger$Pool", "freeFrame", "()I"⟩, 5) := ⟨⟨by decide +kernel, by decide +kernel⟩, List.mem_of_getElem? (i := 130) (by decide +kernel), List.mem_of_getElem? (i := 402) (by decide +kernel), List.mem_of_getElem? (i := 403) (by decide +kernel)⟩
theorem lw_p24 : lw_okq (⟨"SelfArranger$Pool", "moveHand", "()V"⟩, 5) := ⟨⟨by decide +kernel, by decide +kernel⟩, List.mem_of_getElem? (i := 130) (by decide +kernel), List.mem_of_getElem? (i := 406) (by decide +kernel), List.mem_of_getElem? (i := 407) (by decide +kernel)⟩
theorem lw_p25 : lw_okq (⟨"SelfArranger", "touchIndex", "(I)V"⟩, 14) := ⟨⟨by decide +kernel, by decide +kernel⟩, List.mem_of_getElem? (i := 23) (by decide +kernel), List.mem_of_getElem? (i := 410) (by decide +kernel), List.mem_of_getElem? (i := 411) (by decide +kernel)⟩
theorem lw_p26 : lw_okq (⟨"SelfArranger$Stretch", "firstLeaf", "()I"⟩, 6) := ⟨⟨by decide +kernel, by decide +kernel⟩, List.mem_of_getElem? (i := 75) (by decide +kernel), List.mem_of_getElem? (i := 415) (by decide +kernel), List.mem_of_getElem? (i := 416) (by decide +kernel)⟩
theorem lw_p27 : lw_okq (⟨"SelfArranger$Stretch", "sort", "()V"⟩, 6) := ⟨⟨by decide +kernel, by decide +kernel⟩, List.mem_of_getElem? (i := 75) (by decide +kernel), List.mem_of_getElem? (i := 426) (by decide +kernel), List.mem_of_getElem? (i := 427) (by decide +kernel)⟩
theorem lw_p28 : lw_okq (⟨"SelfArranger$RowList", "sort", "(LSelfArranger$Table;II)V"⟩, 2) := ⟨⟨by decide +kernel, by decide +kernel⟩, List.mem_of_getElem? (i := 81) (by decide +kernel), List.mem_of_getElem? (i := 430) (by decide +kernel), List.mem_of_getElem? (i := 431) (by decide +kernel)⟩
theorem lw_p29 : lw_okq (⟨"SelfArranger$Table", "isAfter", "(IIII)Z"⟩, 4) := ⟨⟨by decide +kernel, by decide +kernel⟩, List.mem_of_getElem? (i := 31) (by decide +kernel), List.mem_of_getElem? (i := 434) (by decide +kernel), List.mem_of_getElem? (i := 435) (by decide +kernel)⟩
theorem lw_p30 : lw_okq (⟨"SelfArranger$Table", "compare", "(III)I"⟩, 4) := ⟨⟨by decide +kernel, by decide +kernel⟩, List.mem_of_getElem? (i := 31) (by decide +kernel), List.mem_of_getElem? (i := 438) (by decide +kernel), List.mem_of_getElem? (i := 439) (by decide +kernel)⟩
theorem lw_p31 : lw_okq (⟨"SelfArranger", "findAnswer", "()V"⟩, 14) := ⟨⟨by decide +kernel, by decide +kernel⟩, List.mem_of_getElem? (i := 23) (by decide +kernel), List.mem_of_getElem? (i := 446) (by decide +kernel), List.mem_of_getElem? (i := 447) (by decide +kernel)⟩
def lw_privs_2 : List (MethodName × Nat) := [(⟨"SelfArranger$WayCosts", "cheapest", "(I)I"⟩, 2), (⟨"SelfArranger$WayCosts", "at", "(I)I"⟩, 2), (⟨"SelfArranger", "touchPages", "()V"⟩, 14), (⟨"SelfArranger$Pool", "countAnew", "()V"⟩, 5), (⟨"SelfArranger", "touchHeap", "()V"⟩, 14), (⟨"SelfArranger$Pool", "touch", "(III)V"⟩, 5), (⟨"SelfArranger$Pool", "frameOf", "(I)I"⟩, 5), (⟨"SelfArranger$Pool", "freeFrame", "()I"⟩, 5), (⟨"SelfArranger$Pool", "moveHand", "()V"⟩, 5), (⟨"SelfArranger", "touchIndex", "(I)V"⟩, 14), (⟨"SelfArranger$Stretch", "firstLeaf", "()I"⟩, 6), (⟨"SelfArranger$Stretch", "sort", "()V"⟩, 6), (⟨"SelfArranger$RowList", "sort", "(LSelfArranger$Table;II)V"⟩, 2), (⟨"SelfArranger$Table", "isAfter", "(IIII)Z"⟩, 4), (⟨"SelfArranger$Table", "compare", "(III)I"⟩, 4), (⟨"SelfArranger", "findAnswer", "()V"⟩, 14)]
theorem lw_r2 : ∀ q ∈ lw_privs_2, lw_okq q := List.forall_mem_cons.mpr ⟨lw_p16, List.forall_mem_cons.mpr ⟨lw_p17, List.forall_mem_cons.mpr ⟨lw_p18, List.forall_mem_cons.mpr ⟨lw_p19, List.forall_mem_cons.mpr ⟨lw_p20, List.forall_mem_cons.mpr ⟨lw_p21, List.forall_mem_cons.mpr ⟨lw_p22, List.forall_mem_cons.mpr ⟨lw_p23, List.forall_mem_cons.mpr ⟨lw_p24, List.forall_mem_cons.mpr ⟨lw_p25, List.forall_mem_cons.mpr ⟨lw_p26, List.forall_mem_cons.mpr ⟨lw_p27, List.forall_mem_cons.mpr ⟨lw_p28, List.forall_mem_cons.mpr ⟨lw_p29, List.forall_mem_cons.mpr ⟨lw_p30, List.forall_mem_cons.mpr ⟨lw_p31, fun _ h => absurd h List.not_mem_nil⟩⟩⟩⟩⟩⟩⟩⟩⟩⟩⟩⟩⟩⟩⟩⟩
theorem lw_p32 : lw_okq (⟨"SelfArranger$Conditions", "fitRow", "(LSelfArranger$Table;I)Z"⟩, 3) := ⟨⟨by decide +kernel, by decide +kernel⟩, List.mem_of_getElem? (i := 57) (by decide +kernel), List.mem_of_getElem? (i := 450) (by decide +kernel), List.mem_of_getElem? (i := 451) (by decide +kernel)⟩
theorem lw_p33 : lw_okq (⟨"SelfArranger$Ledger", "noteQuery", "(LSelfArranger$Conditions;)V"⟩, 3) := ⟨⟨by decide +kernel, by decide +kernel⟩, List.mem_of_getElem? (i := 160) (by decide +kernel), List.mem_of_getElem? (i := 459) (by decide +kernel), List.mem_of_getElem? (i := 460) (by decide +kernel)⟩
theorem lw_p34 : lw_okq (⟨"SelfArranger$Conditions", "kindsCode", "()I"⟩, 3) := ⟨⟨by decide +kernel, by decide +kernel⟩, List.mem_of_getElem? (i := 57) (by decide +kernel), List.mem_of_getElem? (i := 463) (by decide +kernel), List.mem_of_getElem? (i := 464) (by decide +kernel)⟩
theorem lw_p35 : lw_okq (⟨"SelfArranger$Ledger", "placeOf", "(I)I"⟩, 3) := ⟨⟨by decide +kernel, by decide +kernel⟩, List.mem_of_getElem? (i := 160) (by decide +kernel), List.mem_of_getElem? (i := 467) (by decide +kernel), List.mem_of_getElem? (i := 468) (by decide +kernel)⟩
theorem lw_p36 : lw_okq (⟨"SelfArranger$Conditions", "copy", "(LSelfArranger$Conditions;)V"⟩, 3) := ⟨⟨by decide +kernel, by decide +kernel⟩, List.mem_of_getElem? (i := 57) (by decide +kernel), List.mem_of_getElem? (i := 471) (by decide +kernel), List.mem_of_getElem? (i := 472) (by decide +kernel)⟩
theorem lw_p37 : lw_okq (⟨"SelfArranger$Conditions", "put", "(IIII)V"⟩, 3) := ⟨⟨by decide +kernel, by decide +kernel⟩, List.mem_of_getElem? (i := 57) (by decide +kernel), List.mem_of_getElem? (i := 475) (by decide +kernel), List.mem_of_getElem? (i := 476) (by decide +kernel)⟩
theorem lw_p38 : lw_okq (⟨"SelfArranger$Ledger", "fade", "()V"⟩, 3) := ⟨⟨by decide +kernel, by decide +kernel⟩, List.mem_of_getElem? (i := 160) (by decide +kernel), List.mem_of_getElem? (i := 491) (by decide +kernel), List.mem_of_getElem? (i := 492) (by decide +kernel)⟩
theorem lw_p39 : lw_okq (⟨"SelfArranger$Adviser", "measure", "()V"⟩, 3) := ⟨⟨by decide +kernel, by decide +kernel⟩, List.mem_of_getElem? (i := 210) (by decide +kernel), List.mem_of_getElem? (i := 502) (by decide +kernel), List.mem_of_getElem? (i := 503) (by decide +kernel)⟩
theorem lw_p40 : lw_okq (⟨"SelfArranger$Adviser", "bestSet", "(I)I"⟩, 3) := ⟨⟨by decide +kernel, by decide +kernel⟩, List.mem_of_getElem? (i := 210) (by decide +kernel), List.mem_of_getElem? (i := 507) (by decide +kernel), List.mem_of_getElem? (i := 508) (by decide +kernel)⟩
theorem lw_p41 : lw_okq (⟨"SelfArranger$Table", "indexSize", "()I"⟩, 4) := ⟨⟨by decide +kernel, by decide +kernel⟩, List.mem_of_getElem? (i := 31) (by decide +kernel), List.mem_of_getElem? (i := 511) (by decide +kernel), List.mem_of_getElem? (i := 512) (by decide +kernel)⟩
theorem lw_p42 : lw_okq (⟨"SelfArranger$Adviser", "setCost", "(I)J"⟩, 3) := ⟨⟨by decide +kernel, by decide +kernel⟩, List.mem_of_getElem? (i := 210) (by decide +kernel), List.mem_of_getElem? (i := 516) (by decide +kernel), List.mem_of_getElem? (i := 517) (by decide +kernel)⟩
theorem lw_p43 : lw_okq (⟨"SelfArranger$WayCosts", "least", "(I)I"⟩, 2) := ⟨⟨by decide +kernel, by decide +kernel⟩, List.mem_of_getElem? (i := 117) (by decide +kernel), List.mem_of_getElem? (i := 520) (by decide +kernel), List.mem_of_getElem? (i := 521) (by decide +kernel)⟩
theorem lw_p44 : lw_okq (⟨"java/lang/Throwable", "fillInStackTrace", "(I)Ljava/lang/Throwable;"⟩, 6) := ⟨⟨by decide +kernel, by decide +kernel⟩, List.mem_of_getElem? (i := 586) (by decide +kernel), List.mem_of_getElem? (i := 584) (by decide +kernel), List.mem_of_getElem? (i := 585) (by decide +kernel)⟩
theorem lw_p45 : lw_okq (⟨"SelfArranger$Table", "isFull", "()Z"⟩, 4) := ⟨⟨by decide +kernel, by decide +kernel⟩, List.mem_of_getElem? (i := 31) (by decide +kernel), List.mem_of_getElem? (i := 616) (by decide +kernel), List.mem_of_getElem? (i := 617) (by decide +kernel)⟩
theorem lw_p46 : lw_okq (⟨"SelfArranger$Table", "add", "(III)I"⟩, 4) := ⟨⟨by decide +kernel, by decide +kernel⟩, List.mem_of_getElem? (i := 31) (by decide +kernel), List.mem_of_getElem? (i := 636) (by decide +kernel), List.mem_of_getElem? (i := 637) (by decide +kernel)⟩
theorem lw_p47 : lw_okq (⟨"SelfArranger$Table", "put", "(III)V"⟩, 4) := ⟨⟨by decide +kernel, by decide +kernel⟩, List.mem_of_getElem? (i := 31) (by decide +kernel), List.mem_of_getElem? (i := 640) (by decide +kernel), List.mem_of_getElem? (i := 641) (by decide +kernel)⟩
def lw_privs_3 : List (MethodName × Nat) := [(⟨"SelfArranger$Conditions", "fitRow", "(LSelfArranger$Table;I)Z"⟩, 3), (⟨"SelfArranger$Ledger", "noteQuery", "(LSelfArranger$Conditions;)V"⟩, 3), (⟨"SelfArranger$Conditions", "kindsCode", "()I"⟩, 3), (⟨"SelfArranger$Ledger", "placeOf", "(I)I"⟩, 3), (⟨"SelfArranger$Conditions", "copy", "(LSelfArranger$Conditions;)V"⟩, 3), (⟨"SelfArranger$Conditions", "put", "(IIII)V"⟩, 3), (⟨"SelfArranger$Ledger", "fade", "()V"⟩, 3), (⟨"SelfArranger$Adviser", "measure", "()V"⟩, 3), (⟨"SelfArranger$Adviser", "bestSet", "(I)I"⟩, 3), (⟨"SelfArranger$Table", "indexSize", "()I"⟩, 4), (⟨"SelfArranger$Adviser", "setCost", "(I)J"⟩, 3), (⟨"SelfArranger$WayCosts", "least", "(I)I"⟩, 2), (⟨"java/lang/Throwable", "fillInStackTrace", "(I)Ljava/lang/Throwable;"⟩, 6), (⟨"SelfArranger$Table", "isFull", "()Z"⟩, 4), (⟨"SelfArranger$Table", "add", "(III)I"⟩, 4), (⟨"SelfArranger$Table", "put", "(III)V"⟩, 4)]
theorem lw_r3 : ∀ q ∈ lw_privs_3, lw_okq q := List.forall_mem_cons.mpr ⟨lw_p32, List.forall_mem_cons.mpr ⟨lw_p33, List.forall_mem_cons.mpr ⟨lw_p34, List.forall_mem_cons.mpr ⟨lw_p35, List.forall_mem_cons.mpr ⟨lw_p36, List.forall_mem_cons.mpr ⟨lw_p37, List.forall_mem_cons.mpr ⟨lw_p38, List.forall_mem_cons.mpr ⟨lw_p39, List.forall_mem_cons.mpr ⟨lw_p40, List.forall_mem_cons.mpr ⟨lw_p41, List.forall_mem_cons.mpr ⟨lw_p42, List.forall_mem_cons.mpr ⟨lw_p43, List.forall_mem_cons.mpr ⟨lw_p44, List.forall_mem_cons.mpr ⟨lw_p45, List.forall_mem_cons.mpr ⟨lw_p46, List.forall_mem_cons.mpr ⟨lw_p47, fun _ h => absurd h List.not_mem_nil⟩⟩⟩⟩⟩⟩⟩⟩⟩⟩⟩⟩⟩⟩⟩⟩
theorem lw_p48 : lw_okq (⟨"SelfArranger", "noteChange", "(I)V"⟩, 14) := ⟨⟨by decide +kernel, by decide +kernel⟩, List.mem_of_getElem? (i := 23) (by decide +kernel), List.mem_of_getElem? (i := 644) (by decide +kernel), List.mem_of_getElem? (i := 645) (by decide +kernel)⟩
theorem lw_p49 : lw_okq (⟨"SelfArranger$Ledger", "noteChange", "()V"⟩, 3) := ⟨⟨by decide +kernel, by decide +kernel⟩, List.mem_of_getElem? (i := 160) (by decide +kernel), List.mem_of_getElem? (i := 648) (by decide +kernel), List.mem_of_getElem? (i := 649) (by decide +kernel)⟩
theorem lw_p50 : lw_okq (⟨"SelfArranger$Builder", "noteChange", "(I)V"⟩, 5) := ⟨⟨by decide +kernel, by decide +kernel⟩, List.mem_of_getElem? (i := 226) (by decide +kernel), List.mem_of_getElem? (i := 652) (by decide +kernel), List.mem_of_getElem? (i := 653) (by decide +kernel)⟩
theorem lw_p51 : lw_okq (⟨"SelfArranger$Builder", "isBusy", "()Z"⟩, 5) := ⟨⟨by decide +kernel, by decide +kernel⟩, List.mem_of_getElem? (i := 226) (by decide +kernel), List.mem_of_getElem? (i := 656) (by decide +kernel), List.mem_of_getElem? (i := 657) (by decide +kernel)⟩
theorem lw_p52 : lw_okq (⟨"SelfArranger", "requireRow", "(I)V"⟩, 14) := ⟨⟨by decide +kernel, by decide +kernel⟩, List.mem_of_getElem? (i := 23) (by decide +kernel), List.mem_of_getElem? (i := 668) (by decide +kernel), List.mem_of_getElem? (i := 669) (by decide +kernel)⟩
theorem lw_p53 : lw_okq (⟨"SelfArranger$Table", "remove", "(I)V"⟩, 4) := ⟨⟨by decide +kernel, by decide +kernel⟩, List.mem_of_getElem? (i := 31) (by decide +kernel), List.mem_of_getElem? (i := 688) (by decide +kernel), List.mem_of_getElem? (i := 689) (by decide +kernel)⟩
theorem lw_p54 : lw_okq (⟨"SelfArranger$Table", "firstEntry", "(II)I"⟩, 4) := ⟨⟨by decide +kernel, by decide +kernel⟩, List.mem_of_getElem? (i := 31) (by decide +kernel), List.mem_of_getElem? (i := 766) (by decide +kernel), List.mem_of_getElem? (i := 767) (by decide +kernel)⟩
theorem lw_p55 : lw_okq (⟨"SelfArranger$Builder", "begin", "(I)V"⟩, 5) := ⟨⟨by decide +kernel, by decide +kernel⟩, List.mem_of_getElem? (i := 226) (by decide +kernel), List.mem_of_getElem? (i := 825) (by decide +kernel), List.mem_of_getElem? (i := 826) (by decide +kernel)⟩
theorem lw_p56 : lw_okq (⟨"SelfArranger$Builder", "finishIfDone", "()V"⟩, 5) := ⟨⟨by decide +kernel, by decide +kernel⟩, List.mem_of_getElem? (i := 226) (by decide +kernel), List.mem_of_getElem? (i := 829) (by decide +kernel), List.mem_of_getElem? (i := 830) (by decide +kernel)⟩
theorem lw_p57 : lw_okq (⟨"SelfArranger$Builder", "left", "()I"⟩, 5) := ⟨⟨by decide +kernel, by decide +kernel⟩, List.mem_of_getElem? (i := 226) (by decide +kernel), List.mem_of_getElem? (i := 833) (by decide +kernel), List.mem_of_getElem? (i := 834) (by decide +kernel)⟩
theorem lw_p58 : lw_okq (⟨"SelfArranger$Builder", "handle", "(I)I"⟩, 5) := ⟨⟨by decide +kernel, by decide +kernel⟩, List.mem_of_getElem? (i := 226) (by decide +kernel), List.mem_of_getElem? (i := 846) (by decide +kernel), List.mem_of_getElem? (i := 847) (by decide +kernel)⟩
theorem lw_p59 : lw_okq (⟨"SelfArranger$Builder", "discard", "(I)Z"⟩, 5) := ⟨⟨by decide +kernel, by decide +kernel⟩, List.mem_of_getElem? (i := 226) (by decide +kernel), List.mem_of_getElem? (i := 858) (by decide +kernel), List.mem_of_getElem? (i := 859) (by decide +kernel)⟩
theorem lw_p60 : lw_okq (⟨"SelfArrangerModel", "note", "(I)V"⟩, 34) := ⟨⟨by decide +kernel, by decide +kernel⟩, List.mem_of_getElem? (i := 862) (by decide +kernel), List.mem_of_getElem? (i := 982) (by decide +kernel), List.mem_of_getElem? (i := 983) (by decide +kernel)⟩
theorem lw_p61 : lw_okq (⟨"SelfArrangerModel", "isRow", "(I)Z"⟩, 34) := ⟨⟨by decide +kernel, by decide +kernel⟩, List.mem_of_getElem? (i := 862) (by decide +kernel), List.mem_of_getElem? (i := 990) (by decide +kernel), List.mem_of_getElem? (i := 991) (by decide +kernel)⟩
theorem lw_p62 : lw_okq (⟨"SelfArrangerModel", "height", "()I"⟩, 34) := ⟨⟨by decide +kernel, by decide +kernel⟩, List.mem_of_getElem? (i := 862) (by decide +kernel), List.mem_of_getElem? (i := 1012) (by decide +kernel), List.mem_of_getElem? (i := 1013) (by decide +kernel)⟩
theorem lw_p63 : lw_okq (⟨"SelfArrangerModel", "leaves", "()I"⟩, 34) := ⟨⟨by decide +kernel, by decide +kernel⟩, List.mem_of_getElem? (i := 862) (by decide +kernel), List.mem_of_getElem? (i := 1016) (by decide +kernel), List.mem_of_getElem? (i := 1017) (by decide +kernel)⟩
def lw_privs_4 : List (MethodName × Nat) := [(⟨"SelfArranger", "noteChange", "(I)V"⟩, 14), (⟨"SelfArranger$Ledger", "noteChange", "()V"⟩, 3), (⟨"SelfArranger$Builder", "noteChange", "(I)V"⟩, 5), (⟨"SelfArranger$Builder", "isBusy", "()Z"⟩, 5), (⟨"SelfArranger", "requireRow", "(I)V"⟩, 14), (⟨"SelfArranger$Table", "remove", "(I)V"⟩, 4), (⟨"SelfArranger$Table", "firstEntry", "(II)I"⟩, 4), (⟨"SelfArranger$Builder", "begin", "(I)V"⟩, 5), (⟨"SelfArranger$Builder", "finishIfDone", "()V"⟩, 5), (⟨"SelfArranger$Builder", "left", "()I"⟩, 5), (⟨"SelfArranger$Builder", "handle", "(I)I"⟩, 5), (⟨"SelfArranger$Builder", "discard", "(I)Z"⟩, 5), (⟨"SelfArrangerModel", "note", "(I)V"⟩, 34), (⟨"SelfArrangerModel", "isRow", "(I)Z"⟩, 34), (⟨"SelfArrangerModel", "height", "()I"⟩, 34), (⟨"SelfArrangerModel", "leaves", "()I"⟩, 34)]
theorem lw_r4 : ∀ q ∈ lw_privs_4, lw_okq q := List.forall_mem_cons.mpr ⟨lw_p48, List.forall_mem_cons.mpr ⟨lw_p49, List.forall_mem_cons.mpr ⟨lw_p50, List.forall_mem_cons.mpr ⟨lw_p51, List.forall_mem_cons.mpr ⟨lw_p52, List.forall_mem_cons.mpr ⟨lw_p53, List.forall_mem_cons.mpr ⟨lw_p54, List.forall_mem_cons.mpr ⟨lw_p55, List.forall_mem_cons.mpr ⟨lw_p56, List.forall_mem_cons.mpr ⟨lw_p57, List.forall_mem_cons.mpr ⟨lw_p58, List.forall_mem_cons.mpr ⟨lw_p59, List.forall_mem_cons.mpr ⟨lw_p60, List.forall_mem_cons.mpr ⟨lw_p61, List.forall_mem_cons.mpr ⟨lw_p62, List.forall_mem_cons.mpr ⟨lw_p63, fun _ h => absurd h List.not_mem_nil⟩⟩⟩⟩⟩⟩⟩⟩⟩⟩⟩⟩⟩⟩⟩⟩
theorem lw_p64 : lw_okq (⟨"SelfArrangerModel", "live", "()I"⟩, 34) := ⟨⟨by decide +kernel, by decide +kernel⟩, List.mem_of_getElem? (i := 862) (by decide +kernel), List.mem_of_getElem? (i := 1020) (by decide +kernel), List.mem_of_getElem? (i := 1021) (by decide +kernel)⟩
theorem lw_p65 : lw_okq (⟨"SelfArrangerModel", "sizeOfIndex", "()I"⟩, 34) := ⟨⟨by decide +kernel, by decide +kernel⟩, List.mem_of_getElem? (i := 862) (by decide +kernel), List.mem_of_getElem? (i := 1027) (by decide +kernel), List.mem_of_getElem? (i := 1028) (by decide +kernel)⟩
theorem lw_p66 : lw_okq (⟨"SelfArrangerModel", "sort", "(II)V"⟩, 34) := ⟨⟨by decide +kernel, by decide +kernel⟩, List.mem_of_getElem? (i := 862) (by decide +kernel), List.mem_of_getElem? (i := 1031) (by decide +kernel), List.mem_of_getElem? (i := 1032) (by decide +kernel)⟩
theorem lw_p67 : lw_okq (⟨"SelfArrangerModel", "isBefore", "(IIII)Z"⟩, 34) := ⟨⟨by decide +kernel, by decide +kernel⟩, List.mem_of_getElem? (i := 862) (by decide +kernel), List.mem_of_getElem? (i := 1035) (by decide +kernel), List.mem_of_getElem? (i := 1036) (by decide +kernel)⟩
theorem lw_p68 : lw_okq (⟨"SelfArrangerModel", "of", "(II)I"⟩, 34) := ⟨⟨by decide +kernel, by decide +kernel⟩, List.mem_of_getElem? (i := 862) (by decide +kernel), List.mem_of_getElem? (i := 1039) (by decide +kernel), List.mem_of_getElem? (i := 1040) (by decide +kernel)⟩
theorem lw_p69 : lw_okq (⟨"SelfArrangerModel", "heapPages", "()I"⟩, 34) := ⟨⟨by decide +kernel, by decide +kernel⟩, List.mem_of_getElem? (i := 862) (by decide +kernel), List.mem_of_getElem? (i := 1047) (by decide +kernel), List.mem_of_getElem? (i := 1048) (by decide +kernel)⟩
theorem lw_p70 : lw_okq (⟨"SelfArrangerModel", "isWay", "(II)Z"⟩, 34) := ⟨⟨by decide +kernel, by decide +kernel⟩, List.mem_of_getElem? (i := 862) (by decide +kernel), List.mem_of_getElem? (i := 1051) (by decide +kernel), List.mem_of_getElem? (i := 1052) (by decide +kernel)⟩
theorem lw_p71 : lw_okq (⟨"SelfArrangerModel", "costBy", "(II)I"⟩, 34) := ⟨⟨by decide +kernel, by decide +kernel⟩, List.mem_of_getElem? (i := 862) (by decide +kernel), List.mem_of_getElem? (i := 1055) (by decide +kernel), List.mem_of_getElem? (i := 1056) (by decide +kernel)⟩
theorem lw_p72 : lw_okq (⟨"SelfArrangerModel", "stretch", "(II)V"⟩, 34) := ⟨⟨by decide +kernel, by decide +kernel⟩, List.mem_of_getElem? (i := 862) (by decide +kernel), List.mem_of_getElem? (i := 1059) (by decide +kernel), List.mem_of_getElem? (i := 1060) (by decide +kernel)⟩
theorem lw_p73 : lw_okq (⟨"SelfArrangerModel", "isAhead", "(III)Z"⟩, 34) := ⟨⟨by decide +kernel, by decide +kernel⟩, List.mem_of_getElem? (i := 862) (by decide +kernel), List.mem_of_getElem? (i := 1063) (by decide +kernel), List.mem_of_getElem? (i := 1064) (by decide +kernel)⟩
theorem lw_p74 : lw_okq (⟨"SelfArrangerModel", "countsSecond", "(II)Z"⟩, 34) := ⟨⟨by decide +kernel, by decide +kernel⟩, List.mem_of_getElem? (i := 862) (by decide +kernel), List.mem_of_getElem? (i := 1067) (by decide +kernel), List.mem_of_getElem? (i := 1068) (by decide +kernel)⟩
theorem lw_p75 : lw_okq (⟨"SelfArrangerModel", "isIn", "(III)Z"⟩, 34) := ⟨⟨by decide +kernel, by decide +kernel⟩, List.mem_of_getElem? (i := 862) (by decide +kernel), List.mem_of_getElem? (i := 1071) (by decide +kernel), List.mem_of_getElem? (i := 1072) (by decide +kernel)⟩
theorem lw_p76 : lw_okq (⟨"SelfArrangerModel", "fits", "(III)Z"⟩, 34) := ⟨⟨by decide +kernel, by decide +kernel⟩, List.mem_of_getElem? (i := 862) (by decide +kernel), List.mem_of_getElem? (i := 1075) (by decide +kernel), List.mem_of_getElem? (i := 1076) (by decide +kernel)⟩
theorem lw_p77 : lw_okq (⟨"SelfArrangerModel", "leavesTouched", "()I"⟩, 34) := ⟨⟨by decide +kernel, by decide +kernel⟩, List.mem_of_getElem? (i := 862) (by decide +kernel), List.mem_of_getElem? (i := 1079) (by decide +kernel), List.mem_of_getElem? (i := 1080) (by decide +kernel)⟩
theorem lw_p78 : lw_okq (⟨"SelfArrangerModel", "wayOf", "(II)I"⟩, 34) := ⟨⟨by decide +kernel, by decide +kernel⟩, List.mem_of_getElem? (i := 862) (by decide +kernel), List.mem_of_getElem? (i := 1095) (by decide +kernel), List.mem_of_getElem? (i := 1096) (by decide +kernel)⟩
theorem lw_p79 : lw_okq (⟨"SelfArrangerModel", "costOfWay", "(II)I"⟩, 34) := ⟨⟨by decide +kernel, by decide +kernel⟩, List.mem_of_getElem? (i := 862) (by decide +kernel), List.mem_of_getElem? (i := 1099) (by decide +kernel), List.mem_of_getElem? (i := 1100) (by decide +kernel)⟩
def lw_privs_5 : List (MethodName × Nat) := [(⟨"SelfArrangerModel", "live", "()I"⟩, 34), (⟨"SelfArrangerModel", "sizeOfIndex", "()I"⟩, 34), (⟨"SelfArrangerModel", "sort", "(II)V"⟩, 34), (⟨"SelfArrangerModel", "isBefore", "(IIII)Z"⟩, 34), (⟨"SelfArrangerModel", "of", "(II)I"⟩, 34), (⟨"SelfArrangerModel", "heapPages", "()I"⟩, 34), (⟨"SelfArrangerModel", "isWay", "(II)Z"⟩, 34), (⟨"SelfArrangerModel", "costBy", "(II)I"⟩, 34), (⟨"SelfArrangerModel", "stretch", "(II)V"⟩, 34), (⟨"SelfArrangerModel", "isAhead", "(III)Z"⟩, 34), (⟨"SelfArrangerModel", "countsSecond", "(II)Z"⟩, 34), (⟨"SelfArrangerModel", "isIn", "(III)Z"⟩, 34), (⟨"SelfArrangerModel", "fits", "(III)Z"⟩, 34), (⟨"SelfArrangerModel", "leavesTouched", "()I"⟩, 34), (⟨"SelfArrangerModel", "wayOf", "(II)I"⟩, 34), (⟨"SelfArrangerModel", "costOfWay", "(II)I"⟩, 34)]
theorem lw_r5 : ∀ q ∈ lw_privs_5, lw_okq q := List.forall_mem_cons.mpr ⟨lw_p64, List.forall_mem_cons.mpr ⟨lw_p65, List.forall_mem_cons.mpr ⟨lw_p66, List.forall_mem_cons.mpr ⟨lw_p67, List.forall_mem_cons.mpr ⟨lw_p68, List.forall_mem_cons.mpr ⟨lw_p69, List.forall_mem_cons.mpr ⟨lw_p70, List.forall_mem_cons.mpr ⟨lw_p71, List.forall_mem_cons.mpr ⟨lw_p72, List.forall_mem_cons.mpr ⟨lw_p73, List.forall_mem_cons.mpr ⟨lw_p74, List.forall_mem_cons.mpr ⟨lw_p75, List.forall_mem_cons.mpr ⟨lw_p76, List.forall_mem_cons.mpr ⟨lw_p77, List.forall_mem_cons.mpr ⟨lw_p78, List.forall_mem_cons.mpr ⟨lw_p79, fun _ h => absurd h List.not_mem_nil⟩⟩⟩⟩⟩⟩⟩⟩⟩⟩⟩⟩⟩⟩⟩⟩
theorem lw_p80 : lw_okq (⟨"SelfArrangerModel", "touch", "(III)V"⟩, 34) := ⟨⟨by decide +kernel, by decide +kernel⟩, List.mem_of_getElem? (i := 862) (by decide +kernel), List.mem_of_getElem? (i := 1103) (by decide +kernel), List.mem_of_getElem? (i := 1104) (by decide +kernel)⟩
theorem lw_p81 : lw_okq (⟨"SelfArrangerModel", "touchIndex", "(I)V"⟩, 34) := ⟨⟨by decide +kernel, by decide +kernel⟩, List.mem_of_getElem? (i := 862) (by decide +kernel), List.mem_of_getElem? (i := 1107) (by decide +kernel), List.mem_of_getElem? (i := 1108) (by decide +kernel)⟩
theorem lw_p82 : lw_okq (⟨"SelfArrangerModel", "firstLeaf", "()I"⟩, 34) := ⟨⟨by decide +kernel, by decide +kernel⟩, List.mem_of_getElem? (i := 862) (by decide +kernel), List.mem_of_getElem? (i := 1111) (by decide +kernel), List.mem_of_getElem? (i := 1112) (by decide +kernel)⟩
theorem lw_p83 : lw_okq (⟨"SelfArrangerModel", "remember", "()V"⟩, 34) := ⟨⟨by decide +kernel, by decide +kernel⟩, List.mem_of_getElem? (i := 862) (by decide +kernel), List.mem_of_getElem? (i := 1115) (by decide +kernel), List.mem_of_getElem? (i := 1116) (by decide +kernel)⟩
theorem lw_p84 : lw_okq (⟨"SelfArrangerModel", "findShape", "()I"⟩, 34) := ⟨⟨by decide +kernel, by decide +kernel⟩, List.mem_of_getElem? (i := 862) (by decide +kernel), List.mem_of_getElem? (i := 1119) (by decide +kernel), List.mem_of_getElem? (i := 1120) (by decide +kernel)⟩
theorem lw_p85 : lw_okq (⟨"SelfArrangerModel", "copyShape", "(II)V"⟩, 34) := ⟨⟨by decide +kernel, by decide +kernel⟩, List.mem_of_getElem? (i := 862) (by decide +kernel), List.mem_of_getElem? (i := 1123) (by decide +kernel), List.mem_of_getElem? (i := 1124) (by decide +kernel)⟩
theorem lw_p86 : lw_okq (⟨"SelfArrangerModel", "findCosts", "()V"⟩, 34) := ⟨⟨by decide +kernel, by decide +kernel⟩, List.mem_of_getElem? (i := 862) (by decide +kernel), List.mem_of_getElem? (i := 1159) (by decide +kernel), List.mem_of_getElem? (i := 1160) (by decide +kernel)⟩
theorem lw_p87 : lw_okq (⟨"SelfArrangerModel", "sumOf", "(I)J"⟩, 34) := ⟨⟨by decide +kernel, by decide +kernel⟩, List.mem_of_getElem? (i := 862) (by decide +kernel), List.mem_of_getElem? (i := 1163) (by decide +kernel), List.mem_of_getElem? (i := 1164) (by decide +kernel)⟩
theorem lw_p88 : lw_okq (⟨"SelfArrangerModel", "settle", "()I"⟩, 34) := ⟨⟨by decide +kernel, by decide +kernel⟩, List.mem_of_getElem? (i := 862) (by decide +kernel), List.mem_of_getElem? (i := 1178) (by decide +kernel), List.mem_of_getElem? (i := 1179) (by decide +kernel)⟩
theorem lw_p89 : lw_okq (⟨"SelfArrangerModel", "leftToDo", "()I"⟩, 34) := ⟨⟨by decide +kernel, by decide +kernel⟩, List.mem_of_getElem? (i := 862) (by decide +kernel), List.mem_of_getElem? (i := 1182) (by decide +kernel), List.mem_of_getElem? (i := 1183) (by decide +kernel)⟩
def lw_privs_6 : List (MethodName × Nat) := [(⟨"SelfArrangerModel", "touch", "(III)V"⟩, 34), (⟨"SelfArrangerModel", "touchIndex", "(I)V"⟩, 34), (⟨"SelfArrangerModel", "firstLeaf", "()I"⟩, 34), (⟨"SelfArrangerModel", "remember", "()V"⟩, 34), (⟨"SelfArrangerModel", "findShape", "()I"⟩, 34), (⟨"SelfArrangerModel", "copyShape", "(II)V"⟩, 34), (⟨"SelfArrangerModel", "findCosts", "()V"⟩, 34), (⟨"SelfArrangerModel", "sumOf", "(I)J"⟩, 34), (⟨"SelfArrangerModel", "settle", "()I"⟩, 34), (⟨"SelfArrangerModel", "leftToDo", "()I"⟩, 34)]
theorem lw_r6 : ∀ q ∈ lw_privs_6, lw_okq q := List.forall_mem_cons.mpr ⟨lw_p80, List.forall_mem_cons.mpr ⟨lw_p81, List.forall_mem_cons.mpr ⟨lw_p82, List.forall_mem_cons.mpr ⟨lw_p83, List.forall_mem_cons.mpr ⟨lw_p84, List.forall_mem_cons.mpr ⟨lw_p85, List.forall_mem_cons.mpr ⟨lw_p86, List.forall_mem_cons.mpr ⟨lw_p87, List.forall_mem_cons.mpr ⟨lw_p88, List.forall_mem_cons.mpr ⟨lw_p89, fun _ h => absurd h List.not_mem_nil⟩⟩⟩⟩⟩⟩⟩⟩⟩⟩
def lw_privs : List (MethodName × Nat) := lw_privs_1 ++ (lw_privs_2 ++ (lw_privs_3 ++ (lw_privs_4 ++ (lw_privs_5 ++ (lw_privs_6)))))
def lw_tbl : List Cond := k2_sels lw_privs ++ tables_1
theorem lw_privs_ok : ∀ q ∈ lw_privs, lw_okq q := by
  show ∀ q ∈ lw_privs_1 ++ (lw_privs_2 ++ (lw_privs_3 ++ (lw_privs_4 ++ (lw_privs_5 ++ (lw_privs_6))))), lw_okq q
  exact List.forall_mem_append.mpr ⟨lw_r1, List.forall_mem_append.mpr ⟨lw_r2, List.forall_mem_append.mpr ⟨lw_r3, List.forall_mem_append.mpr ⟨lw_r4, List.forall_mem_append.mpr ⟨lw_r5, lw_r6⟩⟩⟩⟩⟩
end
section
/-! Names (written by wip/emit.py out of the Statement): methods, classes, words -/
-- a method: name, bytes, locals, return type, handlers (none: not known)
abbrev gM : Type := MethodName × ByteArray × Nat × Option FieldType × Option (List (Nat × Nat × Nat × Nat))
abbrev gM.y (M : gM) : MethodName := M.1
abbrev gM.code (M : gM) : ByteArray := M.2.1
abbrev gM.maxL (M : gM) : Nat := M.2.2.1
abbrev gM.ret (M : gM) : Option FieldType := M.2.2.2.1
abbrev gM.hh (M : gM) : Option (List (Nat × Nat × Nat × Nat)) := M.2.2.2.2
def gD (M : gM) (pc : Nat) (i : Instr) (n pc' : Nat) : Prop := decode M.code pc = .ok (i, n) ∧ pc + n = pc'
def gRd : Cond → Bool
  | .fieldLinkNest .. => true
  | .methodLinkNest .. => true
  | c => c.onTables && c.keeps
theorem gRd_on {w : Cond} (h : gRd w = true) : w.onTables = true := by
  unfold gRd at h
  split at h
  · rfl
  · rfl
  · simp only [Bool.and_eq_true] at h
    exact h.1
theorem gRd_ride {w : Cond} (h : gRd w = true) {s U : State} (hW : s.WarmedH U.vm) (hb : w.before #[] s = true) : w.before #[] U = true := by
  unfold gRd at h
  split at h
  · exact va_Nw.warmF hW hb
  · exact va_Nw.warmM hW hb
  · exact word_at hW (Or.inl h) hb
-- the words that stay true under warmer tables
def gTW : List Cond := lw_tbl.filter gRd
theorem gTW_on (w : Cond) (h : w ∈ gTW) : w.onTables = true := gRd_on (List.mem_filter.mp h).2
theorem gTW_in {w : Cond} (i : Nat) (h : tables_1[i]? = some w) (hr : gRd w = true) : w ∈ gTW := List.mem_filter.mpr ⟨List.mem_append_right _ (List.mem_of_getElem? h), hr⟩
theorem gTW_sel {y : MethodName} (i n : Nat) (h : lw_privs[i]? = some (y, n)) (hr : gRd (Cond.selects y.cls y y) = true) : Cond.selects y.cls y y ∈ gTW := List.mem_filter.mpr ⟨List.mem_append_left _ (List.mem_map.mpr ⟨(y, n), List.mem_of_getElem? h, rfl⟩), hr⟩
def gShape : String := "SelfArranger$Shape"
def gEx : Nat → String
  | 0 => "java/lang/IllegalArgumentException"
  | 1 => "java/lang/UnsupportedOperationException"
  | 2 => "java/lang/IndexOutOfBoundsException"
  | _ => "java/lang/IllegalStateException"
def m_A_init : gM := (⟨"SelfArranger", "<init>", "(I)V"⟩, prog_1_method_1_code, 2, none, (some []))
def m_T_init : gM := (⟨"SelfArranger$Table", "<init>", "()V"⟩, prog_10_method_1_code, 1, none, (some []))
def m_C_init : gM := (⟨"SelfArranger$Conditions", "<init>", "()V"⟩, prog_4_method_1_code, 1, none, (some []))
def m_S_init : gM := (⟨"SelfArranger$Stretch", "<init>", "(LSelfArranger$Table;)V"⟩, prog_9_method_1_code, 2, none, (some []))
def m_R_init : gM := (⟨"SelfArranger$RowList", "<init>", "()V"⟩, prog_7_method_1_code, 1, none, (some []))
def m_W_init : gM := (⟨"SelfArranger$WayCosts", "<init>", "()V"⟩, prog_11_method_1_code, 1, none, (some []))
def m_P_init : gM := (⟨"SelfArranger$Pool", "<init>", "(I)V"⟩, prog_6_method_1_code, 4, none, (some []))
def m_J_min : gM := (⟨"java/lang/Math", "min", "(II)I"⟩, prog_19_method_69_code, 2, (some .int), (some []))
def m_J_max : gM := (⟨"java/lang/Math", "max", "(II)I"⟩, prog_19_method_65_code, 2, (some .int), (some []))
def m_D_init : gM := (⟨"SelfArranger$Ledger", "<init>", "()V"⟩, prog_5_method_1_code, 2, none, (some []))
def m_H_init : gM := (⟨"SelfArranger$Shape", "<init>", "()V"⟩, prog_8_method_1_code, 1, none, (some []))
def m_V_init : gM := (⟨"SelfArranger$Adviser", "<init>", "(LSelfArranger$Table;LSelfArranger$Stretch;LSelfArranger$Ledger;)V"⟩, prog_2_method_1_code, 4, none, (some []))
def m_B_init : gM := (⟨"SelfArranger$Builder", "<init>", "(LSelfArranger$Table;)V"⟩, prog_3_method_1_code, 2, none, (some []))
def m_A_ask : gM := (⟨"SelfArranger", "ask", "()I"⟩, prog_1_method_8_code, 1, (some .int), (some []))
def m_A_takeCheapestWay : gM := (⟨"SelfArranger", "takeCheapestWay", "()V"⟩, prog_1_method_28_code, 1, none, (some []))
def m_W_measure : gM := (⟨"SelfArranger$WayCosts", "measure", "(LSelfArranger$Table;LSelfArranger$Stretch;LSelfArranger$Conditions;)V"⟩, prog_11_method_2_code, 5, none, (some []))
def m_T_heapPages : gM := (⟨"SelfArranger$Table", "heapPages", "()I"⟩, prog_10_method_7_code, 1, (some .int), (some []))
def m_A_groupsOfFour : gM := (⟨"SelfArranger", "groupsOfFour", "(I)I"⟩, prog_1_method_34_code, 1, (some .int), (some []))
def m_C_binds : gM := (⟨"SelfArranger$Conditions", "binds", "(I)Z"⟩, prog_4_method_4_code, 2, (some .boolean), (some []))
def m_S_lay : gM := (⟨"SelfArranger$Stretch", "lay", "(LSelfArranger$Conditions;I)V"⟩, prog_9_method_2_code, 4, none, (some []))
def m_S_place : gM := (⟨"SelfArranger$Stretch", "place", "(LSelfArranger$Conditions;I)V"⟩, prog_9_method_3_code, 3, none, (some []))
def m_S_isBefore : gM := (⟨"SelfArranger$Stretch", "isBefore", "(LSelfArranger$Conditions;I)Z"⟩, prog_9_method_4_code, 5, (some .boolean), (some []))
def m_T_at : gM := (⟨"SelfArranger$Table", "at", "(II)I"⟩, prog_10_method_6_code, 3, (some .int), (some []))
def m_S_isInside : gM := (⟨"SelfArranger$Stretch", "isInside", "(LSelfArranger$Conditions;I)Z"⟩, prog_9_method_5_code, 3, (some .boolean), (some []))
def m_C_fit : gM := (⟨"SelfArranger$Conditions", "fit", "(II)Z"⟩, prog_4_method_5_code, 3, (some .boolean), (some []))
def m_R_append : gM := (⟨"SelfArranger$RowList", "append", "(I)V"⟩, prog_7_method_2_code, 2, none, (some []))
def m_S_pages : gM := (⟨"SelfArranger$Stretch", "pages", "()I"⟩, prog_9_method_9_code, 1, (some .int), (some []))
def m_T_indexHeight : gM := (⟨"SelfArranger$Table", "indexHeight", "()I"⟩, prog_10_method_9_code, 3, (some .int), (some []))
def m_T_indexLeaves : gM := (⟨"SelfArranger$Table", "indexLeaves", "()I"⟩, prog_10_method_8_code, 1, (some .int), (some []))
def m_S_leaves : gM := (⟨"SelfArranger$Stretch", "leaves", "()I"⟩, prog_9_method_8_code, 1, (some .int), (some []))
def m_B_readySet : gM := (⟨"SelfArranger$Builder", "readySet", "()I"⟩, prog_3_method_3_code, 3, (some .int), (some []))
def m_W_cheapest : gM := (⟨"SelfArranger$WayCosts", "cheapest", "(I)I"⟩, prog_11_method_4_code, 5, (some .int), (some []))
def m_W_at : gM := (⟨"SelfArranger$WayCosts", "at", "(I)I"⟩, prog_11_method_3_code, 2, (some .int), (some []))
def m_A_touchPages : gM := (⟨"SelfArranger", "touchPages", "()V"⟩, prog_1_method_29_code, 1, none, (some []))
def m_P_countAnew : gM := (⟨"SelfArranger$Pool", "countAnew", "()V"⟩, prog_6_method_2_code, 1, none, (some []))
def m_A_touchHeap : gM := (⟨"SelfArranger", "touchHeap", "()V"⟩, prog_1_method_30_code, 3, none, (some []))
def m_P_touch : gM := (⟨"SelfArranger$Pool", "touch", "(III)V"⟩, prog_6_method_3_code, 6, none, (some []))
def m_P_frameOf : gM := (⟨"SelfArranger$Pool", "frameOf", "(I)I"⟩, prog_6_method_4_code, 3, (some .int), (some []))
def m_P_freeFrame : gM := (⟨"SelfArranger$Pool", "freeFrame", "()I"⟩, prog_6_method_5_code, 2, (some .int), (some []))
def m_P_moveHand : gM := (⟨"SelfArranger$Pool", "moveHand", "()V"⟩, prog_6_method_6_code, 1, none, (some []))
def m_A_touchIndex : gM := (⟨"SelfArranger", "touchIndex", "(I)V"⟩, prog_1_method_31_code, 5, none, (some []))
def m_S_firstLeaf : gM := (⟨"SelfArranger$Stretch", "firstLeaf", "()I"⟩, prog_9_method_7_code, 1, (some .int), (some []))
def m_A_nodeAbove : gM := (⟨"SelfArranger", "nodeAbove", "(II)I"⟩, prog_1_method_32_code, 4, (some .int), (some []))
def m_S_sort : gM := (⟨"SelfArranger$Stretch", "sort", "()V"⟩, prog_9_method_6_code, 1, none, (some []))
def m_R_sort : gM := (⟨"SelfArranger$RowList", "sort", "(LSelfArranger$Table;II)V"⟩, prog_7_method_3_code, 7, none, (some []))
def m_T_isAfter : gM := (⟨"SelfArranger$Table", "isAfter", "(IIII)Z"⟩, prog_10_method_12_code, 6, (some .boolean), (some []))
def m_T_compare : gM := (⟨"SelfArranger$Table", "compare", "(III)I"⟩, prog_10_method_13_code, 4, (some .int), (some []))
def m_J_compare : gM := (⟨"java/lang/Integer", "compare", "(II)I"⟩, prog_18_method_40_code, 2, (some .int), (some []))
def m_A_findAnswer : gM := (⟨"SelfArranger", "findAnswer", "()V"⟩, prog_1_method_33_code, 2, none, (some []))
def m_C_fitRow : gM := (⟨"SelfArranger$Conditions", "fitRow", "(LSelfArranger$Table;I)Z"⟩, prog_4_method_6_code, 4, (some .boolean), (some []))
def m_D_noteQuery : gM := (⟨"SelfArranger$Ledger", "noteQuery", "(LSelfArranger$Conditions;)V"⟩, prog_5_method_2_code, 3, none, (some []))
def m_C_kindsCode : gM := (⟨"SelfArranger$Conditions", "kindsCode", "()I"⟩, prog_4_method_7_code, 3, (some .int), (some []))
def m_D_placeOf : gM := (⟨"SelfArranger$Ledger", "placeOf", "(I)I"⟩, prog_5_method_3_code, 3, (some .int), (some []))
def m_C_copy : gM := (⟨"SelfArranger$Conditions", "copy", "(LSelfArranger$Conditions;)V"⟩, prog_4_method_3_code, 3, none, (some []))
def m_C_put : gM := (⟨"SelfArranger$Conditions", "put", "(IIII)V"⟩, prog_4_method_2_code, 5, none, (some []))
def m_A_shapes : gM := (⟨"SelfArranger", "shapes", "()I"⟩, prog_1_method_13_code, 1, (some .int), (some []))
def m_A_changes : gM := (⟨"SelfArranger", "changes", "()I"⟩, prog_1_method_15_code, 1, (some .int), (some []))
def m_A_period : gM := (⟨"SelfArranger", "period", "()I"⟩, prog_1_method_16_code, 1, (some .int), (some []))
def m_D_fade : gM := (⟨"SelfArranger$Ledger", "fade", "()V"⟩, prog_5_method_5_code, 4, none, (some []))
def m_D_threeQuarters : gM := (⟨"SelfArranger$Ledger", "threeQuarters", "(I)I"⟩, prog_5_method_6_code, 1, (some .int), (some []))
def m_A_choose : gM := (⟨"SelfArranger", "choose", "()I"⟩, prog_1_method_18_code, 1, (some .int), (some []))
def m_V_measure : gM := (⟨"SelfArranger$Adviser", "measure", "()V"⟩, prog_2_method_2_code, 3, none, (some []))
def m_V_bestSet : gM := (⟨"SelfArranger$Adviser", "bestSet", "(I)I"⟩, prog_2_method_4_code, 10, (some .int), (some []))
def m_T_indexSize : gM := (⟨"SelfArranger$Table", "indexSize", "()I"⟩, prog_10_method_10_code, 5, (some .int), (some []))
def m_V_setCost : gM := (⟨"SelfArranger$Adviser", "setCost", "(I)J"⟩, prog_2_method_3_code, 6, (some .long), (some []))
def m_W_least : gM := (⟨"SelfArranger$WayCosts", "least", "(I)I"⟩, prog_11_method_5_code, 2, (some .int), (some []))
def m_J_bitCount : gM := (⟨"java/lang/Integer", "bitCount", "(I)I"⟩, prog_18_method_49_code, 1, (some .int), (some []))
def m_L_cell : gM := (⟨"SelfArrangerLaw", "cell", "([II)I"⟩, method_2_code, 2, (some .int), (some []))
def m_L_insert : gM := (⟨"SelfArrangerLaw", "insert", "(LSelfArranger;III[J)I"⟩, method_3_code, 6, (some .int), (some [(0, 12, 15, 13), (0, 12, 19, 15)]))
def m_A_insert : gM := (⟨"SelfArranger", "insert", "(III)I"⟩, prog_1_method_2_code, 5, (some .int), (some []))
def m_A_requireValue : gM := (⟨"SelfArranger", "requireValue", "(I)V"⟩, prog_1_method_26_code, 1, none, (some []))
def m_T_isFull : gM := (⟨"SelfArranger$Table", "isFull", "()Z"⟩, prog_10_method_2_code, 1, (some .boolean), (some []))
def m_T_add : gM := (⟨"SelfArranger$Table", "add", "(III)I"⟩, prog_10_method_3_code, 5, (some .int), (some []))
def m_T_put : gM := (⟨"SelfArranger$Table", "put", "(III)V"⟩, prog_10_method_5_code, 4, none, (some []))
def m_A_noteChange : gM := (⟨"SelfArranger", "noteChange", "(I)V"⟩, prog_1_method_27_code, 2, none, (some []))
def m_D_noteChange : gM := (⟨"SelfArranger$Ledger", "noteChange", "()V"⟩, prog_5_method_4_code, 1, none, (some []))
def m_B_noteChange : gM := (⟨"SelfArranger$Builder", "noteChange", "(I)V"⟩, prog_3_method_5_code, 2, none, (some []))
def m_B_isBusy : gM := (⟨"SelfArranger$Builder", "isBusy", "()Z"⟩, prog_3_method_2_code, 1, (some .boolean), (some []))
def m_L_delete : gM := (⟨"SelfArrangerLaw", "delete", "(LSelfArranger;I)I"⟩, method_4_code, 3, (some .int), (some [(0, 5, 8, 21)]))
def m_A_delete : gM := (⟨"SelfArranger", "delete", "(I)V"⟩, prog_1_method_3_code, 2, none, (some []))
def m_A_requireRow : gM := (⟨"SelfArranger", "requireRow", "(I)V"⟩, prog_1_method_23_code, 2, none, (some []))
def m_T_remove : gM := (⟨"SelfArranger$Table", "remove", "(I)V"⟩, prog_10_method_4_code, 2, none, (some []))
def m_L_change : gM := (⟨"SelfArrangerLaw", "change", "(LSelfArranger;III)I"⟩, method_5_code, 5, (some .int), (some [(0, 7, 10, 21), (0, 7, 14, 13)]))
def m_A_change : gM := (⟨"SelfArranger", "change", "(III)V"⟩, prog_1_method_4_code, 4, none, (some []))
def m_A_requireColumn : gM := (⟨"SelfArranger", "requireColumn", "(I)V"⟩, prog_1_method_24_code, 1, none, (some []))
def m_L_value : gM := (⟨"SelfArrangerLaw", "value", "(LSelfArranger;II[J)I"⟩, method_6_code, 5, (some .int), (some [(0, 10, 13, 21)]))
def m_A_value : gM := (⟨"SelfArranger", "value", "(II)I"⟩, prog_1_method_5_code, 3, (some .int), (some []))
def m_L_where : gM := (⟨"SelfArrangerLaw", "where", "(LSelfArranger;IIII)I"⟩, method_7_code, 6, (some .int), (some [(0, 9, 12, 21), (0, 9, 16, 13)]))
def m_A_where : gM := (⟨"SelfArranger", "where", "(IIII)V"⟩, prog_1_method_6_code, 5, none, (some []))
def m_L_order : gM := (⟨"SelfArrangerLaw", "order", "(LSelfArranger;II)I"⟩, method_8_code, 4, (some .int), (some [(0, 6, 9, 21), (0, 6, 12, 13)]))
def m_A_order : gM := (⟨"SelfArranger", "order", "(II)V"⟩, prog_1_method_7_code, 3, none, (some []))
def m_L_answer : gM := (⟨"SelfArrangerLaw", "answer", "(LSelfArranger;I[J)I"⟩, method_9_code, 4, (some .int), (some [(0, 9, 12, 21)]))
def m_A_answer : gM := (⟨"SelfArranger", "answer", "(I)I"⟩, prog_1_method_9_code, 2, (some .int), (some []))
def m_L_last : gM := (⟨"SelfArrangerLaw", "last", "(LSelfArranger;I[J)I"⟩, method_10_code, 4, (some .int), (some [(0, 9, 12, 21)]))
def m_A_last : gM := (⟨"SelfArranger", "last", "(I)I"⟩, prog_1_method_10_code, 2, (some .int), (some []))
def m_L_cost : gM := (⟨"SelfArrangerLaw", "cost", "(LSelfArranger;I[J)I"⟩, method_11_code, 4, (some .int), (some [(0, 9, 12, 21)]))
def m_A_cost : gM := (⟨"SelfArranger", "cost", "(I)I"⟩, prog_1_method_11_code, 2, (some .int), (some []))
def m_A_requireIndex : gM := (⟨"SelfArranger", "requireIndex", "(I)V"⟩, prog_1_method_25_code, 1, none, (some []))
def m_L_index : gM := (⟨"SelfArrangerLaw", "index", "(LSelfArranger;II[J)I"⟩, method_12_code, 5, (some .int), (some [(0, 10, 13, 21)]))
def m_A_index : gM := (⟨"SelfArranger", "index", "(II)I"⟩, prog_1_method_12_code, 3, (some .int), (some []))
def m_T_firstEntry : gM := (⟨"SelfArranger$Table", "firstEntry", "(II)I"⟩, prog_10_method_11_code, 5, (some .int), (some []))
def m_L_shape : gM := (⟨"SelfArrangerLaw", "shape", "(LSelfArranger;II[J)I"⟩, method_13_code, 5, (some .int), (some [(0, 10, 13, 21)]))
def m_A_shape : gM := (⟨"SelfArranger", "shape", "(II)I"⟩, prog_1_method_14_code, 4, (some .int), (some []))
def m_L_budget : gM := (⟨"SelfArrangerLaw", "budget", "(LSelfArranger;I)I"⟩, method_14_code, 3, (some .int), (some [(0, 5, 8, 13)]))
def m_A_budget : gM := (⟨"SelfArranger", "budget", "(I)V"⟩, prog_1_method_17_code, 2, none, (some []))
def m_L_costOf : gM := (⟨"SelfArrangerLaw", "costOf", "(LSelfArranger;I[J)I"⟩, method_15_code, 4, (some .int), (some [(0, 8, 11, 13)]))
def m_A_costOf : gM := (⟨"SelfArranger", "costOf", "(I)J"⟩, prog_1_method_19_code, 2, (some .long), (some []))
def m_L_build : gM := (⟨"SelfArrangerLaw", "build", "(LSelfArranger;I)I"⟩, method_16_code, 3, (some .int), (some [(0, 5, 8, 21), (0, 5, 11, 65)]))
def m_A_build : gM := (⟨"SelfArranger", "build", "(I)V"⟩, prog_1_method_20_code, 2, none, (some []))
def m_B_begin : gM := (⟨"SelfArranger$Builder", "begin", "(I)V"⟩, prog_3_method_4_code, 2, none, (some []))
def m_B_finishIfDone : gM := (⟨"SelfArranger$Builder", "finishIfDone", "()V"⟩, prog_3_method_8_code, 1, none, (some []))
def m_B_left : gM := (⟨"SelfArranger$Builder", "left", "()I"⟩, prog_3_method_7_code, 1, (some .int), (some []))
def m_L_work : gM := (⟨"SelfArrangerLaw", "work", "(LSelfArranger;I[J)I"⟩, method_17_code, 4, (some .int), (some [(0, 9, 12, 13), (0, 9, 15, 65)]))
def m_A_work : gM := (⟨"SelfArranger", "work", "(I)I"⟩, prog_1_method_21_code, 2, (some .int), (some []))
def m_B_handle : gM := (⟨"SelfArranger$Builder", "handle", "(I)I"⟩, prog_3_method_6_code, 3, (some .int), (some []))
def m_L_drop : gM := (⟨"SelfArrangerLaw", "drop", "(LSelfArranger;I[J)I"⟩, method_18_code, 4, (some .int), (some [(0, 16, 19, 21)]))
def m_A_drop : gM := (⟨"SelfArranger", "drop", "(I)Z"⟩, prog_1_method_22_code, 2, (some .boolean), (some []))
def m_B_discard : gM := (⟨"SelfArranger$Builder", "discard", "(I)Z"⟩, prog_3_method_9_code, 3, (some .boolean), (some []))
def m_M_init : gM := (⟨"SelfArrangerModel", "<init>", "(I)V"⟩, prog_13_method_1_code, 3, none, (some []))
def m_M_thrown : gM := (⟨"SelfArrangerModel", "thrown", "()I"⟩, prog_13_method_2_code, 1, (some .int), (some []))
def m_M_insert : gM := (⟨"SelfArrangerModel", "insert", "(III)I"⟩, prog_13_method_8_code, 5, (some .int), (some []))
def m_M_isValue : gM := (⟨"SelfArrangerModel", "isValue", "(I)Z"⟩, prog_13_method_3_code, 1, (some .boolean), (some []))
def m_M_note : gM := (⟨"SelfArrangerModel", "note", "(I)V"⟩, prog_13_method_7_code, 2, none, (some []))
def m_M_delete : gM := (⟨"SelfArrangerModel", "delete", "(I)V"⟩, prog_13_method_9_code, 2, none, (some []))
def m_M_isRow : gM := (⟨"SelfArrangerModel", "isRow", "(I)Z"⟩, prog_13_method_4_code, 2, (some .boolean), (some []))
def m_M_change : gM := (⟨"SelfArrangerModel", "change", "(III)V"⟩, prog_13_method_10_code, 4, none, (some []))
def m_M_isColumn : gM := (⟨"SelfArrangerModel", "isColumn", "(I)Z"⟩, prog_13_method_5_code, 1, (some .boolean), (some []))
def m_M_value : gM := (⟨"SelfArrangerModel", "value", "(II)I"⟩, prog_13_method_11_code, 3, (some .int), (some []))
def m_M_index : gM := (⟨"SelfArrangerModel", "index", "(II)I"⟩, prog_13_method_21_code, 3, (some .int), (some []))
def m_M_isIndex : gM := (⟨"SelfArrangerModel", "isIndex", "(I)Z"⟩, prog_13_method_6_code, 1, (some .boolean), (some []))
def m_M_height : gM := (⟨"SelfArrangerModel", "height", "()I"⟩, prog_13_method_19_code, 3, (some .int), (some []))
def m_M_leaves : gM := (⟨"SelfArrangerModel", "leaves", "()I"⟩, prog_13_method_18_code, 2, (some .int), (some []))
def m_M_live : gM := (⟨"SelfArrangerModel", "live", "()I"⟩, prog_13_method_16_code, 3, (some .int), (some []))
def m_M_byFour : gM := (⟨"SelfArrangerModel", "byFour", "(I)I"⟩, prog_13_method_17_code, 1, (some .int), (some []))
def m_M_sizeOfIndex : gM := (⟨"SelfArrangerModel", "sizeOfIndex", "()I"⟩, prog_13_method_20_code, 3, (some .int), (some []))
def m_M_sort : gM := (⟨"SelfArrangerModel", "sort", "(II)V"⟩, prog_13_method_15_code, 5, none, (some []))
def m_M_isBefore : gM := (⟨"SelfArrangerModel", "isBefore", "(IIII)Z"⟩, prog_13_method_14_code, 7, (some .boolean), (some []))
def m_M_of : gM := (⟨"SelfArrangerModel", "of", "(II)I"⟩, prog_13_method_13_code, 3, (some .int), (some []))
def m_M_cost : gM := (⟨"SelfArrangerModel", "cost", "(I)I"⟩, prog_13_method_33_code, 2, (some .int), (some []))
def m_M_heapPages : gM := (⟨"SelfArrangerModel", "heapPages", "()I"⟩, prog_13_method_12_code, 1, (some .int), (some []))
def m_M_isWay : gM := (⟨"SelfArrangerModel", "isWay", "(II)Z"⟩, prog_13_method_23_code, 3, (some .boolean), (some []))
def m_M_costBy : gM := (⟨"SelfArrangerModel", "costBy", "(II)I"⟩, prog_13_method_30_code, 3, (some .int), (some []))
def m_M_stretch : gM := (⟨"SelfArrangerModel", "stretch", "(II)V"⟩, prog_13_method_27_code, 3, none, (some []))
def m_M_isAhead : gM := (⟨"SelfArrangerModel", "isAhead", "(III)Z"⟩, prog_13_method_25_code, 8, (some .boolean), (some []))
def m_M_countsSecond : gM := (⟨"SelfArrangerModel", "countsSecond", "(II)Z"⟩, prog_13_method_24_code, 4, (some .boolean), (some []))
def m_M_isIn : gM := (⟨"SelfArrangerModel", "isIn", "(III)Z"⟩, prog_13_method_26_code, 4, (some .boolean), (some []))
def m_M_fits : gM := (⟨"SelfArrangerModel", "fits", "(III)Z"⟩, prog_13_method_22_code, 6, (some .boolean), (some []))
def m_M_leavesTouched : gM := (⟨"SelfArrangerModel", "leavesTouched", "()I"⟩, prog_13_method_29_code, 1, (some .int), (some []))
def m_M_where : gM := (⟨"SelfArrangerModel", "where", "(IIII)V"⟩, prog_13_method_34_code, 5, none, (some []))
def m_M_order : gM := (⟨"SelfArrangerModel", "order", "(II)V"⟩, prog_13_method_35_code, 3, none, (some []))
def m_M_ask : gM := (⟨"SelfArrangerModel", "ask", "()I"⟩, prog_13_method_41_code, 3, (some .int), (some []))
def m_M_wayOf : gM := (⟨"SelfArrangerModel", "wayOf", "(II)I"⟩, prog_13_method_31_code, 8, (some .int), (some []))
def m_M_costOfWay : gM := (⟨"SelfArrangerModel", "costOfWay", "(II)I"⟩, prog_13_method_32_code, 3, (some .int), (some []))
def m_M_touch : gM := (⟨"SelfArrangerModel", "touch", "(III)V"⟩, prog_13_method_36_code, 6, none, (some []))
def m_M_touchIndex : gM := (⟨"SelfArrangerModel", "touchIndex", "(I)V"⟩, prog_13_method_37_code, 7, none, (some []))
def m_M_firstLeaf : gM := (⟨"SelfArrangerModel", "firstLeaf", "()I"⟩, prog_13_method_28_code, 2, (some .int), (some []))
def m_M_remember : gM := (⟨"SelfArrangerModel", "remember", "()V"⟩, prog_13_method_40_code, 2, none, (some []))
def m_M_findShape : gM := (⟨"SelfArrangerModel", "findShape", "()I"⟩, prog_13_method_38_code, 2, (some .int), (some []))
def m_M_copyShape : gM := (⟨"SelfArrangerModel", "copyShape", "(II)V"⟩, prog_13_method_39_code, 4, none, (some []))
def m_M_answer : gM := (⟨"SelfArrangerModel", "answer", "(I)I"⟩, prog_13_method_42_code, 2, (some .int), (some []))
def m_M_last : gM := (⟨"SelfArrangerModel", "last", "(I)I"⟩, prog_13_method_43_code, 2, (some .int), (some []))
def m_M_shapes : gM := (⟨"SelfArrangerModel", "shapes", "()I"⟩, prog_13_method_44_code, 1, (some .int), (some []))
def m_M_shape : gM := (⟨"SelfArrangerModel", "shape", "(II)I"⟩, prog_13_method_45_code, 4, (some .int), (some []))
def m_M_changes : gM := (⟨"SelfArrangerModel", "changes", "()I"⟩, prog_13_method_46_code, 1, (some .int), (some []))
def m_M_period : gM := (⟨"SelfArrangerModel", "period", "()I"⟩, prog_13_method_47_code, 4, (some .int), (some []))
def m_M_budget : gM := (⟨"SelfArrangerModel", "budget", "(I)V"⟩, prog_13_method_48_code, 2, none, (some []))
def m_M_choose : gM := (⟨"SelfArrangerModel", "choose", "()I"⟩, prog_13_method_52_code, 8, (some .int), (some []))
def m_M_findCosts : gM := (⟨"SelfArrangerModel", "findCosts", "()V"⟩, prog_13_method_49_code, 3, none, (some []))
def m_M_sumOf : gM := (⟨"SelfArrangerModel", "sumOf", "(I)J"⟩, prog_13_method_51_code, 7, (some .long), (some []))
def m_M_members : gM := (⟨"SelfArrangerModel", "members", "(I)I"⟩, prog_13_method_50_code, 3, (some .int), (some []))
def m_M_costOf : gM := (⟨"SelfArrangerModel", "costOf", "(I)J"⟩, prog_13_method_53_code, 2, (some .long), (some []))
def m_M_build : gM := (⟨"SelfArrangerModel", "build", "(I)V"⟩, prog_13_method_55_code, 2, none, (some []))
def m_M_settle : gM := (⟨"SelfArrangerModel", "settle", "()I"⟩, prog_13_method_56_code, 2, (some .int), (some []))
def m_M_leftToDo : gM := (⟨"SelfArrangerModel", "leftToDo", "()I"⟩, prog_13_method_54_code, 1, (some .int), (some []))
def m_M_work : gM := (⟨"SelfArrangerModel", "work", "(I)I"⟩, prog_13_method_57_code, 3, (some .int), (some []))
def m_M_drop : gM := (⟨"SelfArrangerModel", "drop", "(I)Z"⟩, prog_13_method_58_code, 2, (some .boolean), (some []))
def m_L_law : gM := (⟨"SelfArrangerLaw", "law", "([I)Z"⟩, code, 8, (some .boolean), none)
def T_A : u_T := fun k => match k with
  | 0 => ("SelfArranger", "table", "LSelfArranger$Table;", true)
  | 1 => ("SelfArranger", "conditions", "LSelfArranger$Conditions;", true)
  | 2 => ("SelfArranger", "stretch", "LSelfArranger$Stretch;", true)
  | 3 => ("SelfArranger", "wayCosts", "LSelfArranger$WayCosts;", true)
  | 4 => ("SelfArranger", "pool", "LSelfArranger$Pool;", true)
  | 5 => ("SelfArranger", "ledger", "LSelfArranger$Ledger;", true)
  | 6 => ("SelfArranger", "adviser", "LSelfArranger$Adviser;", true)
  | 7 => ("SelfArranger", "builder", "LSelfArranger$Builder;", true)
  | 8 => ("SelfArranger", "found", "LSelfArranger$RowList;", true)
  | 9 => ("SelfArranger", "orderColumn", "I", false)
  | 10 => ("SelfArranger", "rowLimit", "I", false)
  | 11 => ("SelfArranger", "budgetPages", "I", false)
  | 12 => ("SelfArranger", "lastWay", "I", false)
  | _ => ("SelfArranger", "lastCost", "I", false)
def ty_A : Nat → FieldType := fun k => match k with
  | 0 => (.object "SelfArranger$Table")
  | 1 => (.object "SelfArranger$Conditions")
  | 2 => (.object "SelfArranger$Stretch")
  | 3 => (.object "SelfArranger$WayCosts")
  | 4 => (.object "SelfArranger$Pool")
  | 5 => (.object "SelfArranger$Ledger")
  | 6 => (.object "SelfArranger$Adviser")
  | 7 => (.object "SelfArranger$Builder")
  | 8 => (.object "SelfArranger$RowList")
  | 9 => .int
  | 10 => .int
  | 11 => .int
  | 12 => .int
  | _ => .int
theorem nm_A : ∀ a, a < 14 → ∀ b, b < 14 → a ≠ b → (T_A a).2.1 ≠ (T_A b).2.1 := by decide +kernel
theorem tyok_A : ∀ k, k < 14 → parseFieldDescriptor (T_A k).2.2.1 = some (ty_A k) := by decide +kernel
def T_T : u_T := fun k => match k with
  | 0 => ("SelfArranger$Table", "values", "[I", true)
  | 1 => ("SelfArranger$Table", "there", "[Z", true)
  | 2 => ("SelfArranger$Table", "inserted", "I", false)
  | _ => ("SelfArranger$Table", "rowsThere", "I", false)
def ty_T : Nat → FieldType := fun k => match k with
  | 0 => (.array .int)
  | 1 => (.array .boolean)
  | 2 => .int
  | _ => .int
theorem nm_T : ∀ a, a < 4 → ∀ b, b < 4 → a ≠ b → (T_T a).2.1 ≠ (T_T b).2.1 := by decide +kernel
theorem tyok_T : ∀ k, k < 4 → parseFieldDescriptor (T_T k).2.2.1 = some (ty_T k) := by decide +kernel
def T_C : u_T := fun k => match k with
  | 0 => ("SelfArranger$Conditions", "kinds", "[I", true)
  | 1 => ("SelfArranger$Conditions", "froms", "[I", true)
  | _ => ("SelfArranger$Conditions", "tos", "[I", true)
def ty_C : Nat → FieldType := fun k => match k with
  | 0 => (.array .int)
  | 1 => (.array .int)
  | _ => (.array .int)
theorem nm_C : ∀ a, a < 3 → ∀ b, b < 3 → a ≠ b → (T_C a).2.1 ≠ (T_C b).2.1 := by decide +kernel
theorem tyok_C : ∀ k, k < 3 → parseFieldDescriptor (T_C k).2.2.1 = some (ty_C k) := by decide +kernel
def T_S : u_T := fun k => match k with
  | 0 => ("SelfArranger$Stretch", "table", "LSelfArranger$Table;", true)
  | 1 => ("SelfArranger$Stretch", "entries", "LSelfArranger$RowList;", true)
  | 2 => ("SelfArranger$Stretch", "first", "I", false)
  | 3 => ("SelfArranger$Stretch", "second", "I", false)
  | 4 => ("SelfArranger$Stretch", "secondCounts", "Z", false)
  | _ => ("SelfArranger$Stretch", "before", "I", false)
def ty_S : Nat → FieldType := fun k => match k with
  | 0 => (.object "SelfArranger$Table")
  | 1 => (.object "SelfArranger$RowList")
  | 2 => .int
  | 3 => .int
  | 4 => .boolean
  | _ => .int
theorem nm_S : ∀ a, a < 6 → ∀ b, b < 6 → a ≠ b → (T_S a).2.1 ≠ (T_S b).2.1 := by decide +kernel
theorem tyok_S : ∀ k, k < 6 → parseFieldDescriptor (T_S k).2.2.1 = some (ty_S k) := by decide +kernel
def T_W : u_T := fun k => match k with
  | 0 => ("SelfArranger$WayCosts", "byIndex", "[I", true)
  | _ => ("SelfArranger$WayCosts", "heap", "I", false)
def ty_W : Nat → FieldType := fun k => match k with
  | 0 => (.array .int)
  | _ => .int
theorem nm_W : ∀ a, a < 2 → ∀ b, b < 2 → a ≠ b → (T_W a).2.1 ≠ (T_W b).2.1 := by decide +kernel
theorem tyok_W : ∀ k, k < 2 → parseFieldDescriptor (T_W k).2.2.1 = some (ty_W k) := by decide +kernel
def T_P : u_T := fun k => match k with
  | 0 => ("SelfArranger$Pool", "pages", "[I", true)
  | 1 => ("SelfArranger$Pool", "marked", "[Z", true)
  | 2 => ("SelfArranger$Pool", "hand", "I", false)
  | 3 => ("SelfArranger$Pool", "touched", "I", false)
  | _ => ("SelfArranger$Pool", "misses", "I", false)
def ty_P : Nat → FieldType := fun k => match k with
  | 0 => (.array .int)
  | 1 => (.array .boolean)
  | 2 => .int
  | 3 => .int
  | _ => .int
theorem nm_P : ∀ a, a < 5 → ∀ b, b < 5 → a ≠ b → (T_P a).2.1 ≠ (T_P b).2.1 := by decide +kernel
theorem tyok_P : ∀ k, k < 5 → parseFieldDescriptor (T_P k).2.2.1 = some (ty_P k) := by decide +kernel
def T_D : u_T := fun k => match k with
  | 0 => ("SelfArranger$Ledger", "shapes", "[LSelfArranger$Shape;", true)
  | 1 => ("SelfArranger$Ledger", "count", "I", false)
  | _ => ("SelfArranger$Ledger", "changesWeight", "I", false)
def ty_D : Nat → FieldType := fun k => match k with
  | 0 => (.array (.object "SelfArranger$Shape"))
  | 1 => .int
  | _ => .int
theorem nm_D : ∀ a, a < 3 → ∀ b, b < 3 → a ≠ b → (T_D a).2.1 ≠ (T_D b).2.1 := by decide +kernel
theorem tyok_D : ∀ k, k < 3 → parseFieldDescriptor (T_D k).2.2.1 = some (ty_D k) := by decide +kernel
def T_V : u_T := fun k => match k with
  | 0 => ("SelfArranger$Adviser", "table", "LSelfArranger$Table;", true)
  | 1 => ("SelfArranger$Adviser", "stretch", "LSelfArranger$Stretch;", true)
  | _ => ("SelfArranger$Adviser", "ledger", "LSelfArranger$Ledger;", true)
def ty_V : Nat → FieldType := fun k => match k with
  | 0 => (.object "SelfArranger$Table")
  | 1 => (.object "SelfArranger$Stretch")
  | _ => (.object "SelfArranger$Ledger")
theorem nm_V : ∀ a, a < 3 → ∀ b, b < 3 → a ≠ b → (T_V a).2.1 ≠ (T_V b).2.1 := by decide +kernel
theorem tyok_V : ∀ k, k < 3 → parseFieldDescriptor (T_V k).2.2.1 = some (ty_V k) := by decide +kernel
def T_B : u_T := fun k => match k with
  | 0 => ("SelfArranger$Builder", "table", "LSelfArranger$Table;", true)
  | 1 => ("SelfArranger$Builder", "states", "[I", true)
  | 2 => ("SelfArranger$Builder", "building", "I", false)
  | 3 => ("SelfArranger$Builder", "handled", "I", false)
  | _ => ("SelfArranger$Builder", "sideLength", "I", false)
def ty_B : Nat → FieldType := fun k => match k with
  | 0 => (.object "SelfArranger$Table")
  | 1 => (.array .int)
  | 2 => .int
  | 3 => .int
  | _ => .int
theorem nm_B : ∀ a, a < 5 → ∀ b, b < 5 → a ≠ b → (T_B a).2.1 ≠ (T_B b).2.1 := by decide +kernel
theorem tyok_B : ∀ k, k < 5 → parseFieldDescriptor (T_B k).2.2.1 = some (ty_B k) := by decide +kernel
def T_R : u_T := fun k => match k with
  | 0 => ("SelfArranger$RowList", "rows", "[I", true)
  | _ => ("SelfArranger$RowList", "count", "I", false)
def ty_R : Nat → FieldType := fun k => match k with
  | 0 => (.array .int)
  | _ => .int
theorem nm_R : ∀ a, a < 2 → ∀ b, b < 2 → a ≠ b → (T_R a).2.1 ≠ (T_R b).2.1 := by decide +kernel
theorem tyok_R : ∀ k, k < 2 → parseFieldDescriptor (T_R k).2.2.1 = some (ty_R k) := by decide +kernel
def T_H : u_T := fun k => match k with
  | 0 => ("SelfArranger$Shape", "kept", "LSelfArranger$Conditions;", true)
  | 1 => ("SelfArranger$Shape", "wayCosts", "LSelfArranger$WayCosts;", true)
  | _ => ("SelfArranger$Shape", "weight", "I", false)
def ty_H : Nat → FieldType := fun k => match k with
  | 0 => (.object "SelfArranger$Conditions")
  | 1 => (.object "SelfArranger$WayCosts")
  | _ => .int
theorem nm_H : ∀ a, a < 3 → ∀ b, b < 3 → a ≠ b → (T_H a).2.1 ≠ (T_H b).2.1 := by decide +kernel
theorem tyok_H : ∀ k, k < 3 → parseFieldDescriptor (T_H k).2.2.1 = some (ty_H k) := by decide +kernel
def T_M : u_T := fun k => match k with
  | 0 => ("SelfArrangerModel", "thrown", "I", false)
  | 1 => ("SelfArrangerModel", "inserted", "I", false)
  | 2 => ("SelfArrangerModel", "there", "[Z", true)
  | 3 => ("SelfArrangerModel", "values", "[I", true)
  | 4 => ("SelfArrangerModel", "firstColumn", "[I", true)
  | 5 => ("SelfArrangerModel", "secondColumn", "[I", true)
  | 6 => ("SelfArrangerModel", "state", "[I", true)
  | 7 => ("SelfArrangerModel", "building", "I", false)
  | 8 => ("SelfArrangerModel", "handled", "I", false)
  | 9 => ("SelfArrangerModel", "side", "I", false)
  | 10 => ("SelfArrangerModel", "kinds", "[I", true)
  | 11 => ("SelfArrangerModel", "froms", "[I", true)
  | 12 => ("SelfArrangerModel", "tos", "[I", true)
  | 13 => ("SelfArrangerModel", "orderColumn", "I", false)
  | 14 => ("SelfArrangerModel", "limit", "I", false)
  | 15 => ("SelfArrangerModel", "shapes", "I", false)
  | 16 => ("SelfArrangerModel", "weights", "[I", true)
  | 17 => ("SelfArrangerModel", "changes", "I", false)
  | 18 => ("SelfArrangerModel", "budget", "I", false)
  | 19 => ("SelfArrangerModel", "frames", "I", true)
  | 20 => ("SelfArrangerModel", "pages", "[I", true)
  | 21 => ("SelfArrangerModel", "marked", "[Z", true)
  | 22 => ("SelfArrangerModel", "hand", "I", false)
  | 23 => ("SelfArrangerModel", "answer", "[I", true)
  | 24 => ("SelfArrangerModel", "answered", "I", false)
  | 25 => ("SelfArrangerModel", "lastWay", "I", false)
  | 26 => ("SelfArrangerModel", "lastCost", "I", false)
  | 27 => ("SelfArrangerModel", "touches", "I", false)
  | 28 => ("SelfArrangerModel", "misses", "I", false)
  | 29 => ("SelfArrangerModel", "entries", "[I", true)
  | 30 => ("SelfArrangerModel", "size", "I", false)
  | 31 => ("SelfArrangerModel", "begin", "I", false)
  | 32 => ("SelfArrangerModel", "end", "I", false)
  | _ => ("SelfArrangerModel", "costs", "[I", true)
def ty_M : Nat → FieldType := fun k => match k with
  | 0 => .int
  | 1 => .int
  | 2 => (.array .boolean)
  | 3 => (.array .int)
  | 4 => (.array .int)
  | 5 => (.array .int)
  | 6 => (.array .int)
  | 7 => .int
  | 8 => .int
  | 9 => .int
  | 10 => (.array .int)
  | 11 => (.array .int)
  | 12 => (.array .int)
  | 13 => .int
  | 14 => .int
  | 15 => .int
  | 16 => (.array .int)
  | 17 => .int
  | 18 => .int
  | 19 => .int
  | 20 => (.array .int)
  | 21 => (.array .boolean)
  | 22 => .int
  | 23 => (.array .int)
  | 24 => .int
  | 25 => .int
  | 26 => .int
  | 27 => .int
  | 28 => .int
  | 29 => (.array .int)
  | 30 => .int
  | 31 => .int
  | 32 => .int
  | _ => (.array .int)
theorem nm_M : ∀ a, a < 34 → ∀ b, b < 34 → a ≠ b → (T_M a).2.1 ≠ (T_M b).2.1 := by decide +kernel
theorem tyok_M : ∀ k, k < 34 → parseFieldDescriptor (T_M k).2.2.1 = some (ty_M k) := by decide +kernel
abbrev vwCl : List vw_C := [("SelfArranger", T_A, 14), ("SelfArranger$Table", T_T, 4), ("SelfArranger$Conditions", T_C, 3), ("SelfArranger$Stretch", T_S, 6), ("SelfArranger$WayCosts", T_W, 2), ("SelfArranger$Pool", T_P, 5), ("SelfArranger$Ledger", T_D, 3), ("SelfArranger$Adviser", T_V, 3), ("SelfArranger$Builder", T_B, 5), ("SelfArranger$RowList", T_R, 2), ("SelfArranger$Shape", T_H, 3), ("SelfArrangerModel", T_M, 34)]
end
section
/-! decode rows (wip/emit.py) -/
theorem d_A_init_0 : gD m_A_init 0 (.aload_n 0) 1 1 := ⟨by decide +kernel, rfl⟩
theorem d_A_init_1 : gD m_A_init 1 (.invokespecial 3) 3 4 := ⟨by decide +kernel, rfl⟩
theorem d_A_init_4 : gD m_A_init 4 (.aload_n 0) 1 5 := ⟨by decide +kernel, rfl⟩
theorem d_A_init_5 : gD m_A_init 5 (.new 9) 3 8 := ⟨by decide +kernel, rfl⟩
theorem d_A_init_8 : gD m_A_init 8 .dup 1 9 := ⟨by decide +kernel, rfl⟩
theorem d_A_init_9 : gD m_A_init 9 (.invokespecial 11) 3 12 := ⟨by decide +kernel, rfl⟩
theorem d_A_init_12 : gD m_A_init 12 (.putfield 12) 3 15 := ⟨by decide +kernel, rfl⟩
theorem d_A_init_15 : gD m_A_init 15 (.aload_n 0) 1 16 := ⟨by decide +kernel, rfl⟩
theorem d_A_init_16 : gD m_A_init 16 (.new 16) 3 19 := ⟨by decide +kernel, rfl⟩
theorem d_A_init_19 : gD m_A_init 19 .dup 1 20 := ⟨by decide +kernel, rfl⟩
theorem d_A_init_20 : gD m_A_init 20 (.invokespecial 18) 3 23 := ⟨by decide +kernel, rfl⟩
theorem d_A_init_23 : gD m_A_init 23 (.putfield 19) 3 26 := ⟨by decide +kernel, rfl⟩
theorem d_A_init_26 : gD m_A_init 26 (.aload_n 0) 1 27 := ⟨by decide +kernel, rfl⟩
theorem d_A_init_27 : gD m_A_init 27 (.new 23) 3 30 := ⟨by decide +kernel, rfl⟩
theorem d_A_init_30 : gD m_A_init 30 .dup 1 31 := ⟨by decide +kernel, rfl⟩
theorem d_A_init_31 : gD m_A_init 31 (.aload_n 0) 1 32 := ⟨by decide +kernel, rfl⟩
theorem d_A_init_32 : gD m_A_init 32 (.getfield 12) 3 35 := ⟨by decide +kernel, rfl⟩
theorem d_A_init_35 : gD m_A_init 35 (.invokespecial 25) 3 38 := ⟨by decide +kernel, rfl⟩
theorem d_A_init_38 : gD m_A_init 38 (.putfield 28) 3 41 := ⟨by decide +kernel, rfl⟩
theorem d_A_init_41 : gD m_A_init 41 (.aload_n 0) 1 42 := ⟨by decide +kernel, rfl⟩
theorem d_A_init_42 : gD m_A_init 42 (.new 32) 3 45 := ⟨by decide +kernel, rfl⟩
theorem d_A_init_45 : gD m_A_init 45 .dup 1 46 := ⟨by decide +kernel, rfl⟩
theorem d_A_init_46 : gD m_A_init 46 (.invokespecial 34) 3 49 := ⟨by decide +kernel, rfl⟩
theorem d_A_init_49 : gD m_A_init 49 (.putfield 35) 3 52 := ⟨by decide +kernel, rfl⟩
theorem d_A_init_52 : gD m_A_init 52 (.aload_n 0) 1 53 := ⟨by decide +kernel, rfl⟩
theorem d_A_init_53 : gD m_A_init 53 (.new 39) 3 56 := ⟨by decide +kernel, rfl⟩
theorem d_A_init_56 : gD m_A_init 56 .dup 1 57 := ⟨by decide +kernel, rfl⟩
theorem d_A_init_57 : gD m_A_init 57 (.iload_n 1) 1 58 := ⟨by decide +kernel, rfl⟩
theorem d_A_init_58 : gD m_A_init 58 (.invokespecial 41) 3 61 := ⟨by decide +kernel, rfl⟩
theorem d_A_init_61 : gD m_A_init 61 (.putfield 44) 3 64 := ⟨by decide +kernel, rfl⟩
theorem d_A_init_64 : gD m_A_init 64 (.aload_n 0) 1 65 := ⟨by decide +kernel, rfl⟩
theorem d_A_init_65 : gD m_A_init 65 (.new 48) 3 68 := ⟨by decide +kernel, rfl⟩
theorem d_A_init_68 : gD m_A_init 68 .dup 1 69 := ⟨by decide +kernel, rfl⟩
theorem d_A_init_69 : gD m_A_init 69 (.invokespecial 50) 3 72 := ⟨by decide +kernel, rfl⟩
theorem d_A_init_72 : gD m_A_init 72 (.putfield 51) 3 75 := ⟨by decide +kernel, rfl⟩
theorem d_A_init_75 : gD m_A_init 75 (.aload_n 0) 1 76 := ⟨by decide +kernel, rfl⟩
theorem d_A_init_76 : gD m_A_init 76 (.new 55) 3 79 := ⟨by decide +kernel, rfl⟩
theorem d_A_init_79 : gD m_A_init 79 .dup 1 80 := ⟨by decide +kernel, rfl⟩
theorem d_A_init_80 : gD m_A_init 80 (.aload_n 0) 1 81 := ⟨by decide +kernel, rfl⟩
theorem d_A_init_81 : gD m_A_init 81 (.getfield 12) 3 84 := ⟨by decide +kernel, rfl⟩
theorem d_A_init_84 : gD m_A_init 84 (.aload_n 0) 1 85 := ⟨by decide +kernel, rfl⟩
theorem d_A_init_85 : gD m_A_init 85 (.getfield 28) 3 88 := ⟨by decide +kernel, rfl⟩
theorem d_A_init_88 : gD m_A_init 88 (.aload_n 0) 1 89 := ⟨by decide +kernel, rfl⟩
theorem d_A_init_89 : gD m_A_init 89 (.getfield 51) 3 92 := ⟨by decide +kernel, rfl⟩
theorem d_A_init_92 : gD m_A_init 92 (.invokespecial 57) 3 95 := ⟨by decide +kernel, rfl⟩
theorem d_A_init_95 : gD m_A_init 95 (.putfield 60) 3 98 := ⟨by decide +kernel, rfl⟩
theorem d_A_init_98 : gD m_A_init 98 (.aload_n 0) 1 99 := ⟨by decide +kernel, rfl⟩
theorem d_A_init_99 : gD m_A_init 99 (.new 64) 3 102 := ⟨by decide +kernel, rfl⟩
theorem d_A_init_102 : gD m_A_init 102 .dup 1 103 := ⟨by decide +kernel, rfl⟩
theorem d_A_init_103 : gD m_A_init 103 (.aload_n 0) 1 104 := ⟨by decide +kernel, rfl⟩
theorem d_A_init_104 : gD m_A_init 104 (.getfield 12) 3 107 := ⟨by decide +kernel, rfl⟩
theorem d_A_init_107 : gD m_A_init 107 (.invokespecial 66) 3 110 := ⟨by decide +kernel, rfl⟩
theorem d_A_init_110 : gD m_A_init 110 (.putfield 67) 3 113 := ⟨by decide +kernel, rfl⟩
theorem d_A_init_113 : gD m_A_init 113 (.aload_n 0) 1 114 := ⟨by decide +kernel, rfl⟩
theorem d_A_init_114 : gD m_A_init 114 (.new 71) 3 117 := ⟨by decide +kernel, rfl⟩
theorem d_A_init_117 : gD m_A_init 117 .dup 1 118 := ⟨by decide +kernel, rfl⟩
theorem d_A_init_118 : gD m_A_init 118 (.invokespecial 73) 3 121 := ⟨by decide +kernel, rfl⟩
theorem d_A_init_121 : gD m_A_init 121 (.putfield 74) 3 124 := ⟨by decide +kernel, rfl⟩
theorem d_A_init_124 : gD m_A_init 124 (.aload_n 0) 1 125 := ⟨by decide +kernel, rfl⟩
theorem d_A_init_125 : gD m_A_init 125 (.iconst (-1)) 1 126 := ⟨by decide +kernel, rfl⟩
theorem d_A_init_126 : gD m_A_init 126 (.putfield 78) 3 129 := ⟨by decide +kernel, rfl⟩
theorem d_A_init_129 : gD m_A_init 129 (.aload_n 0) 1 130 := ⟨by decide +kernel, rfl⟩
theorem d_A_init_130 : gD m_A_init 130 (.bipush 64) 2 132 := ⟨by decide +kernel, rfl⟩
theorem d_A_init_132 : gD m_A_init 132 (.putfield 82) 3 135 := ⟨by decide +kernel, rfl⟩
theorem d_A_init_135 : gD m_A_init 135 (.aload_n 0) 1 136 := ⟨by decide +kernel, rfl⟩
theorem d_A_init_136 : gD m_A_init 136 (.bipush 16) 2 138 := ⟨by decide +kernel, rfl⟩
theorem d_A_init_138 : gD m_A_init 138 (.putfield 85) 3 141 := ⟨by decide +kernel, rfl⟩
theorem d_A_init_141 : gD m_A_init 141 (.aload_n 0) 1 142 := ⟨by decide +kernel, rfl⟩
theorem d_A_init_142 : gD m_A_init 142 (.iconst (-1)) 1 143 := ⟨by decide +kernel, rfl⟩
theorem d_A_init_143 : gD m_A_init 143 (.putfield 88) 3 146 := ⟨by decide +kernel, rfl⟩
theorem d_A_init_146 : gD m_A_init 146 .return_ 1 147 := ⟨by decide +kernel, rfl⟩
theorem d_T_init_0 : gD m_T_init 0 (.aload_n 0) 1 1 := ⟨by decide +kernel, rfl⟩
theorem d_T_init_1 : gD m_T_init 1 (.invokespecial 3) 3 4 := ⟨by decide +kernel, rfl⟩
theorem d_T_init_4 : gD m_T_init 4 (.aload_n 0) 1 5 := ⟨by decide +kernel, rfl⟩
theorem d_T_init_5 : gD m_T_init 5 (.sipush 192) 3 8 := ⟨by decide +kernel, rfl⟩
theorem d_T_init_8 : gD m_T_init 8 (.newarray .int) 2 10 := ⟨by decide +kernel, rfl⟩
theorem d_T_init_10 : gD m_T_init 10 (.putfield 9) 3 13 := ⟨by decide +kernel, rfl⟩
theorem d_T_init_13 : gD m_T_init 13 (.aload_n 0) 1 14 := ⟨by decide +kernel, rfl⟩
theorem d_T_init_14 : gD m_T_init 14 (.bipush 64) 2 16 := ⟨by decide +kernel, rfl⟩
theorem d_T_init_16 : gD m_T_init 16 (.newarray .boolean) 2 18 := ⟨by decide +kernel, rfl⟩
theorem d_T_init_18 : gD m_T_init 18 (.putfield 15) 3 21 := ⟨by decide +kernel, rfl⟩
theorem d_T_init_21 : gD m_T_init 21 .return_ 1 22 := ⟨by decide +kernel, rfl⟩
theorem d_C_init_0 : gD m_C_init 0 (.aload_n 0) 1 1 := ⟨by decide +kernel, rfl⟩
theorem d_C_init_1 : gD m_C_init 1 (.invokespecial 3) 3 4 := ⟨by decide +kernel, rfl⟩
theorem d_C_init_4 : gD m_C_init 4 (.aload_n 0) 1 5 := ⟨by decide +kernel, rfl⟩
theorem d_C_init_5 : gD m_C_init 5 (.iconst 3) 1 6 := ⟨by decide +kernel, rfl⟩
theorem d_C_init_6 : gD m_C_init 6 (.newarray .int) 2 8 := ⟨by decide +kernel, rfl⟩
theorem d_C_init_8 : gD m_C_init 8 (.putfield 9) 3 11 := ⟨by decide +kernel, rfl⟩
theorem d_C_init_11 : gD m_C_init 11 (.aload_n 0) 1 12 := ⟨by decide +kernel, rfl⟩
theorem d_C_init_12 : gD m_C_init 12 (.iconst 3) 1 13 := ⟨by decide +kernel, rfl⟩
theorem d_C_init_13 : gD m_C_init 13 (.newarray .int) 2 15 := ⟨by decide +kernel, rfl⟩
theorem d_C_init_15 : gD m_C_init 15 (.putfield 15) 3 18 := ⟨by decide +kernel, rfl⟩
theorem d_C_init_18 : gD m_C_init 18 (.aload_n 0) 1 19 := ⟨by decide +kernel, rfl⟩
theorem d_C_init_19 : gD m_C_init 19 (.iconst 3) 1 20 := ⟨by decide +kernel, rfl⟩
theorem d_C_init_20 : gD m_C_init 20 (.newarray .int) 2 22 := ⟨by decide +kernel, rfl⟩
theorem d_C_init_22 : gD m_C_init 22 (.putfield 18) 3 25 := ⟨by decide +kernel, rfl⟩
theorem d_C_init_25 : gD m_C_init 25 .return_ 1 26 := ⟨by decide +kernel, rfl⟩
theorem d_S_init_0 : gD m_S_init 0 (.aload_n 0) 1 1 := ⟨by decide +kernel, rfl⟩
theorem d_S_init_1 : gD m_S_init 1 (.invokespecial 3) 3 4 := ⟨by decide +kernel, rfl⟩
theorem d_S_init_4 : gD m_S_init 4 (.aload_n 0) 1 5 := ⟨by decide +kernel, rfl⟩
theorem d_S_init_5 : gD m_S_init 5 (.new 9) 3 8 := ⟨by decide +kernel, rfl⟩
theorem d_S_init_8 : gD m_S_init 8 .dup 1 9 := ⟨by decide +kernel, rfl⟩
theorem d_S_init_9 : gD m_S_init 9 (.invokespecial 11) 3 12 := ⟨by decide +kernel, rfl⟩
theorem d_S_init_12 : gD m_S_init 12 (.putfield 12) 3 15 := ⟨by decide +kernel, rfl⟩
theorem d_S_init_15 : gD m_S_init 15 (.aload_n 0) 1 16 := ⟨by decide +kernel, rfl⟩
theorem d_S_init_16 : gD m_S_init 16 (.aload_n 1) 1 17 := ⟨by decide +kernel, rfl⟩
theorem d_S_init_17 : gD m_S_init 17 (.putfield 18) 3 20 := ⟨by decide +kernel, rfl⟩
theorem d_S_init_20 : gD m_S_init 20 .return_ 1 21 := ⟨by decide +kernel, rfl⟩
theorem d_R_init_0 : gD m_R_init 0 (.aload_n 0) 1 1 := ⟨by decide +kernel, rfl⟩
theorem d_R_init_1 : gD m_R_init 1 (.invokespecial 3) 3 4 := ⟨by decide +kernel, rfl⟩
theorem d_R_init_4 : gD m_R_init 4 (.aload_n 0) 1 5 := ⟨by decide +kernel, rfl⟩
theorem d_R_init_5 : gD m_R_init 5 (.bipush 64) 2 7 := ⟨by decide +kernel, rfl⟩
theorem d_R_init_7 : gD m_R_init 7 (.newarray .int) 2 9 := ⟨by decide +kernel, rfl⟩
theorem d_R_init_9 : gD m_R_init 9 (.putfield 9) 3 12 := ⟨by decide +kernel, rfl⟩
theorem d_R_init_12 : gD m_R_init 12 .return_ 1 13 := ⟨by decide +kernel, rfl⟩
theorem d_W_init_0 : gD m_W_init 0 (.aload_n 0) 1 1 := ⟨by decide +kernel, rfl⟩
theorem d_W_init_1 : gD m_W_init 1 (.invokespecial 3) 3 4 := ⟨by decide +kernel, rfl⟩
theorem d_W_init_4 : gD m_W_init 4 (.aload_n 0) 1 5 := ⟨by decide +kernel, rfl⟩
theorem d_W_init_5 : gD m_W_init 5 (.bipush 9) 2 7 := ⟨by decide +kernel, rfl⟩
theorem d_W_init_7 : gD m_W_init 7 (.newarray .int) 2 9 := ⟨by decide +kernel, rfl⟩
theorem d_W_init_9 : gD m_W_init 9 (.putfield 9) 3 12 := ⟨by decide +kernel, rfl⟩
theorem d_W_init_12 : gD m_W_init 12 .return_ 1 13 := ⟨by decide +kernel, rfl⟩
theorem d_P_init_0 : gD m_P_init 0 (.aload_n 0) 1 1 := ⟨by decide +kernel, rfl⟩
theorem d_P_init_1 : gD m_P_init 1 (.invokespecial 3) 3 4 := ⟨by decide +kernel, rfl⟩
theorem d_P_init_4 : gD m_P_init 4 (.iconst 2) 1 5 := ⟨by decide +kernel, rfl⟩
theorem d_P_init_5 : gD m_P_init 5 (.bipush 16) 2 7 := ⟨by decide +kernel, rfl⟩
theorem d_P_init_7 : gD m_P_init 7 (.iload_n 1) 1 8 := ⟨by decide +kernel, rfl⟩
theorem d_P_init_8 : gD m_P_init 8 (.invokestatic 11) 3 11 := ⟨by decide +kernel, rfl⟩
theorem d_P_init_11 : gD m_P_init 11 (.invokestatic 17) 3 14 := ⟨by decide +kernel, rfl⟩
theorem d_P_init_14 : gD m_P_init 14 (.istore_n 2) 1 15 := ⟨by decide +kernel, rfl⟩
theorem d_P_init_15 : gD m_P_init 15 (.aload_n 0) 1 16 := ⟨by decide +kernel, rfl⟩
theorem d_P_init_16 : gD m_P_init 16 (.iload_n 2) 1 17 := ⟨by decide +kernel, rfl⟩
theorem d_P_init_17 : gD m_P_init 17 (.newarray .int) 2 19 := ⟨by decide +kernel, rfl⟩
theorem d_P_init_19 : gD m_P_init 19 (.putfield 20) 3 22 := ⟨by decide +kernel, rfl⟩
theorem d_P_init_22 : gD m_P_init 22 (.aload_n 0) 1 23 := ⟨by decide +kernel, rfl⟩
theorem d_P_init_23 : gD m_P_init 23 (.iload_n 2) 1 24 := ⟨by decide +kernel, rfl⟩
theorem d_P_init_24 : gD m_P_init 24 (.newarray .boolean) 2 26 := ⟨by decide +kernel, rfl⟩
theorem d_P_init_26 : gD m_P_init 26 (.putfield 24) 3 29 := ⟨by decide +kernel, rfl⟩
theorem d_P_init_29 : gD m_P_init 29 (.iconst 0) 1 30 := ⟨by decide +kernel, rfl⟩
theorem d_P_init_30 : gD m_P_init 30 (.istore_n 3) 1 31 := ⟨by decide +kernel, rfl⟩
theorem d_P_init_31 : gD m_P_init 31 (.iload_n 3) 1 32 := ⟨by decide +kernel, rfl⟩
theorem d_P_init_32 : gD m_P_init 32 (.iload_n 2) 1 33 := ⟨by decide +kernel, rfl⟩
theorem d_P_init_33 : gD m_P_init 33 (.if_icmp .ge 16) 3 36 := ⟨by decide +kernel, rfl⟩
theorem d_P_init_36 : gD m_P_init 36 (.aload_n 0) 1 37 := ⟨by decide +kernel, rfl⟩
theorem d_P_init_37 : gD m_P_init 37 (.getfield 20) 3 40 := ⟨by decide +kernel, rfl⟩
theorem d_P_init_40 : gD m_P_init 40 (.iload_n 3) 1 41 := ⟨by decide +kernel, rfl⟩
theorem d_P_init_41 : gD m_P_init 41 (.iconst (-1)) 1 42 := ⟨by decide +kernel, rfl⟩
theorem d_P_init_42 : gD m_P_init 42 .iastore 1 43 := ⟨by decide +kernel, rfl⟩
theorem d_P_init_43 : gD m_P_init 43 (.iinc 3 1) 3 46 := ⟨by decide +kernel, rfl⟩
theorem d_P_init_46 : gD m_P_init 46 (.goto (-15)) 3 49 := ⟨by decide +kernel, rfl⟩
theorem d_P_init_49 : gD m_P_init 49 .return_ 1 50 := ⟨by decide +kernel, rfl⟩
theorem d_J_min_0 : gD m_J_min 0 (.iload_n 0) 1 1 := ⟨by decide +kernel, rfl⟩
theorem d_J_min_1 : gD m_J_min 1 (.iload_n 1) 1 2 := ⟨by decide +kernel, rfl⟩
theorem d_J_min_2 : gD m_J_min 2 (.if_icmp .gt 7) 3 5 := ⟨by decide +kernel, rfl⟩
theorem d_J_min_5 : gD m_J_min 5 (.iload_n 0) 1 6 := ⟨by decide +kernel, rfl⟩
theorem d_J_min_6 : gD m_J_min 6 (.goto 4) 3 9 := ⟨by decide +kernel, rfl⟩
theorem d_J_min_9 : gD m_J_min 9 (.iload_n 1) 1 10 := ⟨by decide +kernel, rfl⟩
theorem d_J_min_10 : gD m_J_min 10 .ireturn 1 11 := ⟨by decide +kernel, rfl⟩
theorem d_J_max_0 : gD m_J_max 0 (.iload_n 0) 1 1 := ⟨by decide +kernel, rfl⟩
theorem d_J_max_1 : gD m_J_max 1 (.iload_n 1) 1 2 := ⟨by decide +kernel, rfl⟩
theorem d_J_max_2 : gD m_J_max 2 (.if_icmp .lt 7) 3 5 := ⟨by decide +kernel, rfl⟩
theorem d_J_max_5 : gD m_J_max 5 (.iload_n 0) 1 6 := ⟨by decide +kernel, rfl⟩
theorem d_J_max_6 : gD m_J_max 6 (.goto 4) 3 9 := ⟨by decide +kernel, rfl⟩
theorem d_J_max_9 : gD m_J_max 9 (.iload_n 1) 1 10 := ⟨by decide +kernel, rfl⟩
theorem d_J_max_10 : gD m_J_max 10 .ireturn 1 11 := ⟨by decide +kernel, rfl⟩
theorem d_D_init_0 : gD m_D_init 0 (.aload_n 0) 1 1 := ⟨by decide +kernel, rfl⟩
theorem d_D_init_1 : gD m_D_init 1 (.invokespecial 1) 3 4 := ⟨by decide +kernel, rfl⟩
theorem d_D_init_4 : gD m_D_init 4 (.aload_n 0) 1 5 := ⟨by decide +kernel, rfl⟩
theorem d_D_init_5 : gD m_D_init 5 (.bipush 8) 2 7 := ⟨by decide +kernel, rfl⟩
theorem d_D_init_7 : gD m_D_init 7 (.anewarray 9) 3 10 := ⟨by decide +kernel, rfl⟩
theorem d_D_init_10 : gD m_D_init 10 (.putfield 11) 3 13 := ⟨by decide +kernel, rfl⟩
theorem d_D_init_13 : gD m_D_init 13 (.iconst 0) 1 14 := ⟨by decide +kernel, rfl⟩
theorem d_D_init_14 : gD m_D_init 14 (.istore_n 1) 1 15 := ⟨by decide +kernel, rfl⟩
theorem d_D_init_15 : gD m_D_init 15 (.iload_n 1) 1 16 := ⟨by decide +kernel, rfl⟩
theorem d_D_init_16 : gD m_D_init 16 (.bipush 8) 2 18 := ⟨by decide +kernel, rfl⟩
theorem d_D_init_18 : gD m_D_init 18 (.if_icmp .ge 22) 3 21 := ⟨by decide +kernel, rfl⟩
theorem d_D_init_21 : gD m_D_init 21 (.aload_n 0) 1 22 := ⟨by decide +kernel, rfl⟩
theorem d_D_init_22 : gD m_D_init 22 (.getfield 11) 3 25 := ⟨by decide +kernel, rfl⟩
theorem d_D_init_25 : gD m_D_init 25 (.iload_n 1) 1 26 := ⟨by decide +kernel, rfl⟩
theorem d_D_init_26 : gD m_D_init 26 (.new 9) 3 29 := ⟨by decide +kernel, rfl⟩
theorem d_D_init_29 : gD m_D_init 29 .dup 1 30 := ⟨by decide +kernel, rfl⟩
theorem d_D_init_30 : gD m_D_init 30 (.invokespecial 15) 3 33 := ⟨by decide +kernel, rfl⟩
theorem d_D_init_33 : gD m_D_init 33 .aastore 1 34 := ⟨by decide +kernel, rfl⟩
theorem d_D_init_34 : gD m_D_init 34 (.iinc 1 1) 3 37 := ⟨by decide +kernel, rfl⟩
theorem d_D_init_37 : gD m_D_init 37 (.goto (-22)) 3 40 := ⟨by decide +kernel, rfl⟩
theorem d_D_init_40 : gD m_D_init 40 .return_ 1 41 := ⟨by decide +kernel, rfl⟩
theorem d_H_init_0 : gD m_H_init 0 (.aload_n 0) 1 1 := ⟨by decide +kernel, rfl⟩
theorem d_H_init_1 : gD m_H_init 1 (.invokespecial 1) 3 4 := ⟨by decide +kernel, rfl⟩
theorem d_H_init_4 : gD m_H_init 4 (.aload_n 0) 1 5 := ⟨by decide +kernel, rfl⟩
theorem d_H_init_5 : gD m_H_init 5 (.new 7) 3 8 := ⟨by decide +kernel, rfl⟩
theorem d_H_init_8 : gD m_H_init 8 .dup 1 9 := ⟨by decide +kernel, rfl⟩
theorem d_H_init_9 : gD m_H_init 9 (.invokespecial 9) 3 12 := ⟨by decide +kernel, rfl⟩
theorem d_H_init_12 : gD m_H_init 12 (.putfield 10) 3 15 := ⟨by decide +kernel, rfl⟩
theorem d_H_init_15 : gD m_H_init 15 (.aload_n 0) 1 16 := ⟨by decide +kernel, rfl⟩
theorem d_H_init_16 : gD m_H_init 16 (.new 16) 3 19 := ⟨by decide +kernel, rfl⟩
theorem d_H_init_19 : gD m_H_init 19 .dup 1 20 := ⟨by decide +kernel, rfl⟩
theorem d_H_init_20 : gD m_H_init 20 (.invokespecial 18) 3 23 := ⟨by decide +kernel, rfl⟩
theorem d_H_init_23 : gD m_H_init 23 (.putfield 19) 3 26 := ⟨by decide +kernel, rfl⟩
theorem d_H_init_26 : gD m_H_init 26 .return_ 1 27 := ⟨by decide +kernel, rfl⟩
theorem d_V_init_0 : gD m_V_init 0 (.aload_n 0) 1 1 := ⟨by decide +kernel, rfl⟩
theorem d_V_init_1 : gD m_V_init 1 (.invokespecial 3) 3 4 := ⟨by decide +kernel, rfl⟩
theorem d_V_init_4 : gD m_V_init 4 (.aload_n 0) 1 5 := ⟨by decide +kernel, rfl⟩
theorem d_V_init_5 : gD m_V_init 5 (.aload_n 1) 1 6 := ⟨by decide +kernel, rfl⟩
theorem d_V_init_6 : gD m_V_init 6 (.putfield 9) 3 9 := ⟨by decide +kernel, rfl⟩
theorem d_V_init_9 : gD m_V_init 9 (.aload_n 0) 1 10 := ⟨by decide +kernel, rfl⟩
theorem d_V_init_10 : gD m_V_init 10 (.aload_n 2) 1 11 := ⟨by decide +kernel, rfl⟩
theorem d_V_init_11 : gD m_V_init 11 (.putfield 15) 3 14 := ⟨by decide +kernel, rfl⟩
theorem d_V_init_14 : gD m_V_init 14 (.aload_n 0) 1 15 := ⟨by decide +kernel, rfl⟩
theorem d_V_init_15 : gD m_V_init 15 (.aload_n 3) 1 16 := ⟨by decide +kernel, rfl⟩
theorem d_V_init_16 : gD m_V_init 16 (.putfield 19) 3 19 := ⟨by decide +kernel, rfl⟩
theorem d_V_init_19 : gD m_V_init 19 .return_ 1 20 := ⟨by decide +kernel, rfl⟩
theorem d_B_init_0 : gD m_B_init 0 (.aload_n 0) 1 1 := ⟨by decide +kernel, rfl⟩
theorem d_B_init_1 : gD m_B_init 1 (.invokespecial 3) 3 4 := ⟨by decide +kernel, rfl⟩
theorem d_B_init_4 : gD m_B_init 4 (.aload_n 0) 1 5 := ⟨by decide +kernel, rfl⟩
theorem d_B_init_5 : gD m_B_init 5 (.bipush 9) 2 7 := ⟨by decide +kernel, rfl⟩
theorem d_B_init_7 : gD m_B_init 7 (.newarray .int) 2 9 := ⟨by decide +kernel, rfl⟩
theorem d_B_init_9 : gD m_B_init 9 (.putfield 9) 3 12 := ⟨by decide +kernel, rfl⟩
theorem d_B_init_12 : gD m_B_init 12 (.aload_n 0) 1 13 := ⟨by decide +kernel, rfl⟩
theorem d_B_init_13 : gD m_B_init 13 (.aload_n 1) 1 14 := ⟨by decide +kernel, rfl⟩
theorem d_B_init_14 : gD m_B_init 14 (.putfield 15) 3 17 := ⟨by decide +kernel, rfl⟩
theorem d_B_init_17 : gD m_B_init 17 (.aload_n 0) 1 18 := ⟨by decide +kernel, rfl⟩
theorem d_B_init_18 : gD m_B_init 18 (.iconst (-1)) 1 19 := ⟨by decide +kernel, rfl⟩
theorem d_B_init_19 : gD m_B_init 19 (.putfield 19) 3 22 := ⟨by decide +kernel, rfl⟩
theorem d_B_init_22 : gD m_B_init 22 .return_ 1 23 := ⟨by decide +kernel, rfl⟩
theorem d_A_ask_0 : gD m_A_ask 0 (.aload_n 0) 1 1 := ⟨by decide +kernel, rfl⟩
theorem d_A_ask_1 : gD m_A_ask 1 (.invokevirtual 139) 3 4 := ⟨by decide +kernel, rfl⟩
theorem d_A_ask_4 : gD m_A_ask 4 (.aload_n 0) 1 5 := ⟨by decide +kernel, rfl⟩
theorem d_A_ask_5 : gD m_A_ask 5 (.invokevirtual 142) 3 8 := ⟨by decide +kernel, rfl⟩
theorem d_A_ask_8 : gD m_A_ask 8 (.aload_n 0) 1 9 := ⟨by decide +kernel, rfl⟩
theorem d_A_ask_9 : gD m_A_ask 9 (.invokevirtual 145) 3 12 := ⟨by decide +kernel, rfl⟩
theorem d_A_ask_12 : gD m_A_ask 12 (.aload_n 0) 1 13 := ⟨by decide +kernel, rfl⟩
theorem d_A_ask_13 : gD m_A_ask 13 (.getfield 51) 3 16 := ⟨by decide +kernel, rfl⟩
theorem d_A_ask_16 : gD m_A_ask 16 (.aload_n 0) 1 17 := ⟨by decide +kernel, rfl⟩
theorem d_A_ask_17 : gD m_A_ask 17 (.getfield 19) 3 20 := ⟨by decide +kernel, rfl⟩
theorem d_A_ask_20 : gD m_A_ask 20 (.invokevirtual 148) 3 23 := ⟨by decide +kernel, rfl⟩
theorem d_A_ask_23 : gD m_A_ask 23 (.aload_n 0) 1 24 := ⟨by decide +kernel, rfl⟩
theorem d_A_ask_24 : gD m_A_ask 24 (.getfield 74) 3 27 := ⟨by decide +kernel, rfl⟩
theorem d_A_ask_27 : gD m_A_ask 27 (.getfield 152) 3 30 := ⟨by decide +kernel, rfl⟩
theorem d_A_ask_30 : gD m_A_ask 30 .ireturn 1 31 := ⟨by decide +kernel, rfl⟩
theorem d_A_takeCheapestWay_0 : gD m_A_takeCheapestWay 0 (.aload_n 0) 1 1 := ⟨by decide +kernel, rfl⟩
theorem d_A_takeCheapestWay_1 : gD m_A_takeCheapestWay 1 (.getfield 35) 3 4 := ⟨by decide +kernel, rfl⟩
theorem d_A_takeCheapestWay_4 : gD m_A_takeCheapestWay 4 (.aload_n 0) 1 5 := ⟨by decide +kernel, rfl⟩
theorem d_A_takeCheapestWay_5 : gD m_A_takeCheapestWay 5 (.getfield 12) 3 8 := ⟨by decide +kernel, rfl⟩
theorem d_A_takeCheapestWay_8 : gD m_A_takeCheapestWay 8 (.aload_n 0) 1 9 := ⟨by decide +kernel, rfl⟩
theorem d_A_takeCheapestWay_9 : gD m_A_takeCheapestWay 9 (.getfield 28) 3 12 := ⟨by decide +kernel, rfl⟩
theorem d_A_takeCheapestWay_12 : gD m_A_takeCheapestWay 12 (.aload_n 0) 1 13 := ⟨by decide +kernel, rfl⟩
theorem d_A_takeCheapestWay_13 : gD m_A_takeCheapestWay 13 (.getfield 19) 3 16 := ⟨by decide +kernel, rfl⟩
theorem d_A_takeCheapestWay_16 : gD m_A_takeCheapestWay 16 (.invokevirtual 178) 3 19 := ⟨by decide +kernel, rfl⟩
theorem d_A_takeCheapestWay_19 : gD m_A_takeCheapestWay 19 (.aload_n 0) 1 20 := ⟨by decide +kernel, rfl⟩
theorem d_A_takeCheapestWay_20 : gD m_A_takeCheapestWay 20 (.aload_n 0) 1 21 := ⟨by decide +kernel, rfl⟩
theorem d_A_takeCheapestWay_21 : gD m_A_takeCheapestWay 21 (.getfield 35) 3 24 := ⟨by decide +kernel, rfl⟩
theorem d_A_takeCheapestWay_24 : gD m_A_takeCheapestWay 24 (.aload_n 0) 1 25 := ⟨by decide +kernel, rfl⟩
theorem d_A_takeCheapestWay_25 : gD m_A_takeCheapestWay 25 (.getfield 67) 3 28 := ⟨by decide +kernel, rfl⟩
theorem d_A_takeCheapestWay_28 : gD m_A_takeCheapestWay 28 (.invokevirtual 225) 3 31 := ⟨by decide +kernel, rfl⟩
theorem d_A_takeCheapestWay_31 : gD m_A_takeCheapestWay 31 (.invokevirtual 292) 3 34 := ⟨by decide +kernel, rfl⟩
theorem d_A_takeCheapestWay_34 : gD m_A_takeCheapestWay 34 (.putfield 88) 3 37 := ⟨by decide +kernel, rfl⟩
theorem d_A_takeCheapestWay_37 : gD m_A_takeCheapestWay 37 (.aload_n 0) 1 38 := ⟨by decide +kernel, rfl⟩
theorem d_A_takeCheapestWay_38 : gD m_A_takeCheapestWay 38 (.aload_n 0) 1 39 := ⟨by decide +kernel, rfl⟩
theorem d_A_takeCheapestWay_39 : gD m_A_takeCheapestWay 39 (.getfield 35) 3 42 := ⟨by decide +kernel, rfl⟩
theorem d_A_takeCheapestWay_42 : gD m_A_takeCheapestWay 42 (.aload_n 0) 1 43 := ⟨by decide +kernel, rfl⟩
theorem d_A_takeCheapestWay_43 : gD m_A_takeCheapestWay 43 (.getfield 88) 3 46 := ⟨by decide +kernel, rfl⟩
theorem d_A_takeCheapestWay_46 : gD m_A_takeCheapestWay 46 (.invokevirtual 182) 3 49 := ⟨by decide +kernel, rfl⟩
theorem d_A_takeCheapestWay_49 : gD m_A_takeCheapestWay 49 (.putfield 164) 3 52 := ⟨by decide +kernel, rfl⟩
theorem d_A_takeCheapestWay_52 : gD m_A_takeCheapestWay 52 .return_ 1 53 := ⟨by decide +kernel, rfl⟩
theorem d_W_measure_0 : gD m_W_measure 0 (.aload_n 0) 1 1 := ⟨by decide +kernel, rfl⟩
theorem d_W_measure_1 : gD m_W_measure 1 (.aload_n 1) 1 2 := ⟨by decide +kernel, rfl⟩
theorem d_W_measure_2 : gD m_W_measure 2 (.invokevirtual 15) 3 5 := ⟨by decide +kernel, rfl⟩
theorem d_W_measure_5 : gD m_W_measure 5 (.putfield 21) 3 8 := ⟨by decide +kernel, rfl⟩
theorem d_W_measure_8 : gD m_W_measure 8 (.iconst 0) 1 9 := ⟨by decide +kernel, rfl⟩
theorem d_W_measure_9 : gD m_W_measure 9 (.istore 4) 2 11 := ⟨by decide +kernel, rfl⟩
theorem d_W_measure_11 : gD m_W_measure 11 (.iload 4) 2 13 := ⟨by decide +kernel, rfl⟩
theorem d_W_measure_13 : gD m_W_measure 13 (.bipush 9) 2 15 := ⟨by decide +kernel, rfl⟩
theorem d_W_measure_15 : gD m_W_measure 15 (.if_icmp .ge 48) 3 18 := ⟨by decide +kernel, rfl⟩
theorem d_W_measure_18 : gD m_W_measure 18 (.aload_n 0) 1 19 := ⟨by decide +kernel, rfl⟩
theorem d_W_measure_19 : gD m_W_measure 19 (.getfield 9) 3 22 := ⟨by decide +kernel, rfl⟩
theorem d_W_measure_22 : gD m_W_measure 22 (.iload 4) 2 24 := ⟨by decide +kernel, rfl⟩
theorem d_W_measure_24 : gD m_W_measure 24 (.iconst (-1)) 1 25 := ⟨by decide +kernel, rfl⟩
theorem d_W_measure_25 : gD m_W_measure 25 .iastore 1 26 := ⟨by decide +kernel, rfl⟩
theorem d_W_measure_26 : gD m_W_measure 26 (.aload_n 3) 1 27 := ⟨by decide +kernel, rfl⟩
theorem d_W_measure_27 : gD m_W_measure 27 (.getstatic 25) 3 30 := ⟨by decide +kernel, rfl⟩
theorem d_W_measure_30 : gD m_W_measure 30 (.iload 4) 2 32 := ⟨by decide +kernel, rfl⟩
theorem d_W_measure_32 : gD m_W_measure 32 .iaload 1 33 := ⟨by decide +kernel, rfl⟩
theorem d_W_measure_33 : gD m_W_measure 33 (.invokevirtual 28) 3 36 := ⟨by decide +kernel, rfl⟩
theorem d_W_measure_36 : gD m_W_measure 36 (.ifCond .eq 21) 3 39 := ⟨by decide +kernel, rfl⟩
theorem d_W_measure_39 : gD m_W_measure 39 (.aload_n 2) 1 40 := ⟨by decide +kernel, rfl⟩
theorem d_W_measure_40 : gD m_W_measure 40 (.aload_n 3) 1 41 := ⟨by decide +kernel, rfl⟩
theorem d_W_measure_41 : gD m_W_measure 41 (.iload 4) 2 43 := ⟨by decide +kernel, rfl⟩
theorem d_W_measure_43 : gD m_W_measure 43 (.invokevirtual 34) 3 46 := ⟨by decide +kernel, rfl⟩
theorem d_W_measure_46 : gD m_W_measure 46 (.aload_n 0) 1 47 := ⟨by decide +kernel, rfl⟩
theorem d_W_measure_47 : gD m_W_measure 47 (.getfield 9) 3 50 := ⟨by decide +kernel, rfl⟩
theorem d_W_measure_50 : gD m_W_measure 50 (.iload 4) 2 52 := ⟨by decide +kernel, rfl⟩
theorem d_W_measure_52 : gD m_W_measure 52 (.aload_n 2) 1 53 := ⟨by decide +kernel, rfl⟩
theorem d_W_measure_53 : gD m_W_measure 53 (.invokevirtual 40) 3 56 := ⟨by decide +kernel, rfl⟩
theorem d_W_measure_56 : gD m_W_measure 56 .iastore 1 57 := ⟨by decide +kernel, rfl⟩
theorem d_W_measure_57 : gD m_W_measure 57 (.iinc 4 1) 3 60 := ⟨by decide +kernel, rfl⟩
theorem d_W_measure_60 : gD m_W_measure 60 (.goto (-49)) 3 63 := ⟨by decide +kernel, rfl⟩
theorem d_W_measure_63 : gD m_W_measure 63 .return_ 1 64 := ⟨by decide +kernel, rfl⟩
theorem d_T_heapPages_0 : gD m_T_heapPages 0 (.aload_n 0) 1 1 := ⟨by decide +kernel, rfl⟩
theorem d_T_heapPages_1 : gD m_T_heapPages 1 (.getfield 19) 3 4 := ⟨by decide +kernel, rfl⟩
theorem d_T_heapPages_4 : gD m_T_heapPages 4 (.invokestatic 30) 3 7 := ⟨by decide +kernel, rfl⟩
theorem d_T_heapPages_7 : gD m_T_heapPages 7 .ireturn 1 8 := ⟨by decide +kernel, rfl⟩
theorem d_A_groupsOfFour_0 : gD m_A_groupsOfFour 0 (.iload_n 0) 1 1 := ⟨by decide +kernel, rfl⟩
theorem d_A_groupsOfFour_1 : gD m_A_groupsOfFour 1 (.iconst 4) 1 2 := ⟨by decide +kernel, rfl⟩
theorem d_A_groupsOfFour_2 : gD m_A_groupsOfFour 2 .iadd 1 3 := ⟨by decide +kernel, rfl⟩
theorem d_A_groupsOfFour_3 : gD m_A_groupsOfFour 3 (.iconst 1) 1 4 := ⟨by decide +kernel, rfl⟩
theorem d_A_groupsOfFour_4 : gD m_A_groupsOfFour 4 .isub 1 5 := ⟨by decide +kernel, rfl⟩
theorem d_A_groupsOfFour_5 : gD m_A_groupsOfFour 5 (.iconst 4) 1 6 := ⟨by decide +kernel, rfl⟩
theorem d_A_groupsOfFour_6 : gD m_A_groupsOfFour 6 .idiv 1 7 := ⟨by decide +kernel, rfl⟩
theorem d_A_groupsOfFour_7 : gD m_A_groupsOfFour 7 .ireturn 1 8 := ⟨by decide +kernel, rfl⟩
theorem d_C_binds_0 : gD m_C_binds 0 (.aload_n 0) 1 1 := ⟨by decide +kernel, rfl⟩
theorem d_C_binds_1 : gD m_C_binds 1 (.getfield 9) 3 4 := ⟨by decide +kernel, rfl⟩
theorem d_C_binds_4 : gD m_C_binds 4 (.iload_n 1) 1 5 := ⟨by decide +kernel, rfl⟩
theorem d_C_binds_5 : gD m_C_binds 5 .iaload 1 6 := ⟨by decide +kernel, rfl⟩
theorem d_C_binds_6 : gD m_C_binds 6 (.ifCond .eq 7) 3 9 := ⟨by decide +kernel, rfl⟩
theorem d_C_binds_9 : gD m_C_binds 9 (.iconst 1) 1 10 := ⟨by decide +kernel, rfl⟩
theorem d_C_binds_10 : gD m_C_binds 10 (.goto 4) 3 13 := ⟨by decide +kernel, rfl⟩
theorem d_C_binds_13 : gD m_C_binds 13 (.iconst 0) 1 14 := ⟨by decide +kernel, rfl⟩
theorem d_C_binds_14 : gD m_C_binds 14 .ireturn 1 15 := ⟨by decide +kernel, rfl⟩
theorem d_S_lay_0 : gD m_S_lay 0 (.aload_n 0) 1 1 := ⟨by decide +kernel, rfl⟩
theorem d_S_lay_1 : gD m_S_lay 1 (.getstatic 22) 3 4 := ⟨by decide +kernel, rfl⟩
theorem d_S_lay_4 : gD m_S_lay 4 (.iload_n 2) 1 5 := ⟨by decide +kernel, rfl⟩
theorem d_S_lay_5 : gD m_S_lay 5 .iaload 1 6 := ⟨by decide +kernel, rfl⟩
theorem d_S_lay_6 : gD m_S_lay 6 (.putfield 26) 3 9 := ⟨by decide +kernel, rfl⟩
theorem d_S_lay_9 : gD m_S_lay 9 (.aload_n 0) 1 10 := ⟨by decide +kernel, rfl⟩
theorem d_S_lay_10 : gD m_S_lay 10 (.getstatic 30) 3 13 := ⟨by decide +kernel, rfl⟩
theorem d_S_lay_13 : gD m_S_lay 13 (.iload_n 2) 1 14 := ⟨by decide +kernel, rfl⟩
theorem d_S_lay_14 : gD m_S_lay 14 .iaload 1 15 := ⟨by decide +kernel, rfl⟩
theorem d_S_lay_15 : gD m_S_lay 15 (.putfield 33) 3 18 := ⟨by decide +kernel, rfl⟩
theorem d_S_lay_18 : gD m_S_lay 18 (.aload_n 0) 1 19 := ⟨by decide +kernel, rfl⟩
theorem d_S_lay_19 : gD m_S_lay 19 (.aload_n 0) 1 20 := ⟨by decide +kernel, rfl⟩
theorem d_S_lay_20 : gD m_S_lay 20 (.getfield 33) 3 23 := ⟨by decide +kernel, rfl⟩
theorem d_S_lay_23 : gD m_S_lay 23 (.iconst (-1)) 1 24 := ⟨by decide +kernel, rfl⟩
theorem d_S_lay_24 : gD m_S_lay 24 (.if_icmp .eq 31) 3 27 := ⟨by decide +kernel, rfl⟩
theorem d_S_lay_27 : gD m_S_lay 27 (.aload_n 1) 1 28 := ⟨by decide +kernel, rfl⟩
theorem d_S_lay_28 : gD m_S_lay 28 (.getfield 36) 3 31 := ⟨by decide +kernel, rfl⟩
theorem d_S_lay_31 : gD m_S_lay 31 (.aload_n 0) 1 32 := ⟨by decide +kernel, rfl⟩
theorem d_S_lay_32 : gD m_S_lay 32 (.getfield 26) 3 35 := ⟨by decide +kernel, rfl⟩
theorem d_S_lay_35 : gD m_S_lay 35 .iaload 1 36 := ⟨by decide +kernel, rfl⟩
theorem d_S_lay_36 : gD m_S_lay 36 (.iconst 1) 1 37 := ⟨by decide +kernel, rfl⟩
theorem d_S_lay_37 : gD m_S_lay 37 (.if_icmp .ne 18) 3 40 := ⟨by decide +kernel, rfl⟩
theorem d_S_lay_40 : gD m_S_lay 40 (.aload_n 1) 1 41 := ⟨by decide +kernel, rfl⟩
theorem d_S_lay_41 : gD m_S_lay 41 (.aload_n 0) 1 42 := ⟨by decide +kernel, rfl⟩
theorem d_S_lay_42 : gD m_S_lay 42 (.getfield 33) 3 45 := ⟨by decide +kernel, rfl⟩
theorem d_S_lay_45 : gD m_S_lay 45 (.invokevirtual 41) 3 48 := ⟨by decide +kernel, rfl⟩
theorem d_S_lay_48 : gD m_S_lay 48 (.ifCond .eq 7) 3 51 := ⟨by decide +kernel, rfl⟩
theorem d_S_lay_51 : gD m_S_lay 51 (.iconst 1) 1 52 := ⟨by decide +kernel, rfl⟩
theorem d_S_lay_52 : gD m_S_lay 52 (.goto 4) 3 55 := ⟨by decide +kernel, rfl⟩
theorem d_S_lay_55 : gD m_S_lay 55 (.iconst 0) 1 56 := ⟨by decide +kernel, rfl⟩
theorem d_S_lay_56 : gD m_S_lay 56 (.putfield 45) 3 59 := ⟨by decide +kernel, rfl⟩
theorem d_S_lay_59 : gD m_S_lay 59 (.aload_n 0) 1 60 := ⟨by decide +kernel, rfl⟩
theorem d_S_lay_60 : gD m_S_lay 60 (.iconst 0) 1 61 := ⟨by decide +kernel, rfl⟩
theorem d_S_lay_61 : gD m_S_lay 61 (.putfield 49) 3 64 := ⟨by decide +kernel, rfl⟩
theorem d_S_lay_64 : gD m_S_lay 64 (.aload_n 0) 1 65 := ⟨by decide +kernel, rfl⟩
theorem d_S_lay_65 : gD m_S_lay 65 (.getfield 12) 3 68 := ⟨by decide +kernel, rfl⟩
theorem d_S_lay_68 : gD m_S_lay 68 (.iconst 0) 1 69 := ⟨by decide +kernel, rfl⟩
theorem d_S_lay_69 : gD m_S_lay 69 (.putfield 52) 3 72 := ⟨by decide +kernel, rfl⟩
theorem d_S_lay_72 : gD m_S_lay 72 (.iconst 0) 1 73 := ⟨by decide +kernel, rfl⟩
theorem d_S_lay_73 : gD m_S_lay 73 (.istore_n 3) 1 74 := ⟨by decide +kernel, rfl⟩
theorem d_S_lay_74 : gD m_S_lay 74 (.iload_n 3) 1 75 := ⟨by decide +kernel, rfl⟩
theorem d_S_lay_75 : gD m_S_lay 75 (.aload_n 0) 1 76 := ⟨by decide +kernel, rfl⟩
theorem d_S_lay_76 : gD m_S_lay 76 (.getfield 18) 3 79 := ⟨by decide +kernel, rfl⟩
theorem d_S_lay_79 : gD m_S_lay 79 (.getfield 55) 3 82 := ⟨by decide +kernel, rfl⟩
theorem d_S_lay_82 : gD m_S_lay 82 (.if_icmp .ge 27) 3 85 := ⟨by decide +kernel, rfl⟩
theorem d_S_lay_85 : gD m_S_lay 85 (.aload_n 0) 1 86 := ⟨by decide +kernel, rfl⟩
theorem d_S_lay_86 : gD m_S_lay 86 (.getfield 18) 3 89 := ⟨by decide +kernel, rfl⟩
theorem d_S_lay_89 : gD m_S_lay 89 (.getfield 60) 3 92 := ⟨by decide +kernel, rfl⟩
theorem d_S_lay_92 : gD m_S_lay 92 (.iload_n 3) 1 93 := ⟨by decide +kernel, rfl⟩
theorem d_S_lay_93 : gD m_S_lay 93 .baload 1 94 := ⟨by decide +kernel, rfl⟩
theorem d_S_lay_94 : gD m_S_lay 94 (.ifCond .eq 9) 3 97 := ⟨by decide +kernel, rfl⟩
theorem d_S_lay_97 : gD m_S_lay 97 (.aload_n 0) 1 98 := ⟨by decide +kernel, rfl⟩
theorem d_S_lay_98 : gD m_S_lay 98 (.aload_n 1) 1 99 := ⟨by decide +kernel, rfl⟩
theorem d_S_lay_99 : gD m_S_lay 99 (.iload_n 3) 1 100 := ⟨by decide +kernel, rfl⟩
theorem d_S_lay_100 : gD m_S_lay 100 (.invokevirtual 64) 3 103 := ⟨by decide +kernel, rfl⟩
theorem d_S_lay_103 : gD m_S_lay 103 (.iinc 3 1) 3 106 := ⟨by decide +kernel, rfl⟩
theorem d_S_lay_106 : gD m_S_lay 106 (.goto (-32)) 3 109 := ⟨by decide +kernel, rfl⟩
theorem d_S_lay_109 : gD m_S_lay 109 .return_ 1 110 := ⟨by decide +kernel, rfl⟩
theorem d_S_place_0 : gD m_S_place 0 (.aload_n 0) 1 1 := ⟨by decide +kernel, rfl⟩
theorem d_S_place_1 : gD m_S_place 1 (.aload_n 1) 1 2 := ⟨by decide +kernel, rfl⟩
theorem d_S_place_2 : gD m_S_place 2 (.iload_n 2) 1 3 := ⟨by decide +kernel, rfl⟩
theorem d_S_place_3 : gD m_S_place 3 (.invokevirtual 68) 3 6 := ⟨by decide +kernel, rfl⟩
theorem d_S_place_6 : gD m_S_place 6 (.ifCond .eq 16) 3 9 := ⟨by decide +kernel, rfl⟩
theorem d_S_place_9 : gD m_S_place 9 (.aload_n 0) 1 10 := ⟨by decide +kernel, rfl⟩
theorem d_S_place_10 : gD m_S_place 10 .dup 1 11 := ⟨by decide +kernel, rfl⟩
theorem d_S_place_11 : gD m_S_place 11 (.getfield 49) 3 14 := ⟨by decide +kernel, rfl⟩
theorem d_S_place_14 : gD m_S_place 14 (.iconst 1) 1 15 := ⟨by decide +kernel, rfl⟩
theorem d_S_place_15 : gD m_S_place 15 .iadd 1 16 := ⟨by decide +kernel, rfl⟩
theorem d_S_place_16 : gD m_S_place 16 (.putfield 49) 3 19 := ⟨by decide +kernel, rfl⟩
theorem d_S_place_19 : gD m_S_place 19 (.goto 20) 3 22 := ⟨by decide +kernel, rfl⟩
theorem d_S_place_22 : gD m_S_place 22 (.aload_n 0) 1 23 := ⟨by decide +kernel, rfl⟩
theorem d_S_place_23 : gD m_S_place 23 (.aload_n 1) 1 24 := ⟨by decide +kernel, rfl⟩
theorem d_S_place_24 : gD m_S_place 24 (.iload_n 2) 1 25 := ⟨by decide +kernel, rfl⟩
theorem d_S_place_25 : gD m_S_place 25 (.invokevirtual 72) 3 28 := ⟨by decide +kernel, rfl⟩
theorem d_S_place_28 : gD m_S_place 28 (.ifCond .eq 11) 3 31 := ⟨by decide +kernel, rfl⟩
theorem d_S_place_31 : gD m_S_place 31 (.aload_n 0) 1 32 := ⟨by decide +kernel, rfl⟩
theorem d_S_place_32 : gD m_S_place 32 (.getfield 12) 3 35 := ⟨by decide +kernel, rfl⟩
theorem d_S_place_35 : gD m_S_place 35 (.iload_n 2) 1 36 := ⟨by decide +kernel, rfl⟩
theorem d_S_place_36 : gD m_S_place 36 (.invokevirtual 75) 3 39 := ⟨by decide +kernel, rfl⟩
theorem d_S_place_39 : gD m_S_place 39 .return_ 1 40 := ⟨by decide +kernel, rfl⟩
theorem d_S_isBefore_0 : gD m_S_isBefore 0 (.aload_n 0) 1 1 := ⟨by decide +kernel, rfl⟩
theorem d_S_isBefore_1 : gD m_S_isBefore 1 (.getfield 18) 3 4 := ⟨by decide +kernel, rfl⟩
theorem d_S_isBefore_4 : gD m_S_isBefore 4 (.iload_n 2) 1 5 := ⟨by decide +kernel, rfl⟩
theorem d_S_isBefore_5 : gD m_S_isBefore 5 (.aload_n 0) 1 6 := ⟨by decide +kernel, rfl⟩
theorem d_S_isBefore_6 : gD m_S_isBefore 6 (.getfield 26) 3 9 := ⟨by decide +kernel, rfl⟩
theorem d_S_isBefore_9 : gD m_S_isBefore 9 (.invokevirtual 79) 3 12 := ⟨by decide +kernel, rfl⟩
theorem d_S_isBefore_12 : gD m_S_isBefore 12 (.istore_n 3) 1 13 := ⟨by decide +kernel, rfl⟩
theorem d_S_isBefore_13 : gD m_S_isBefore 13 (.aload_n 1) 1 14 := ⟨by decide +kernel, rfl⟩
theorem d_S_isBefore_14 : gD m_S_isBefore 14 (.getfield 83) 3 17 := ⟨by decide +kernel, rfl⟩
theorem d_S_isBefore_17 : gD m_S_isBefore 17 (.aload_n 0) 1 18 := ⟨by decide +kernel, rfl⟩
theorem d_S_isBefore_18 : gD m_S_isBefore 18 (.getfield 26) 3 21 := ⟨by decide +kernel, rfl⟩
theorem d_S_isBefore_21 : gD m_S_isBefore 21 .iaload 1 22 := ⟨by decide +kernel, rfl⟩
theorem d_S_isBefore_22 : gD m_S_isBefore 22 (.istore 4) 2 24 := ⟨by decide +kernel, rfl⟩
theorem d_S_isBefore_24 : gD m_S_isBefore 24 (.iload_n 3) 1 25 := ⟨by decide +kernel, rfl⟩
theorem d_S_isBefore_25 : gD m_S_isBefore 25 (.iload 4) 2 27 := ⟨by decide +kernel, rfl⟩
theorem d_S_isBefore_27 : gD m_S_isBefore 27 (.if_icmp .lt 40) 3 30 := ⟨by decide +kernel, rfl⟩
theorem d_S_isBefore_30 : gD m_S_isBefore 30 (.aload_n 0) 1 31 := ⟨by decide +kernel, rfl⟩
theorem d_S_isBefore_31 : gD m_S_isBefore 31 (.getfield 45) 3 34 := ⟨by decide +kernel, rfl⟩
theorem d_S_isBefore_34 : gD m_S_isBefore 34 (.ifCond .eq 37) 3 37 := ⟨by decide +kernel, rfl⟩
theorem d_S_isBefore_37 : gD m_S_isBefore 37 (.iload_n 3) 1 38 := ⟨by decide +kernel, rfl⟩
theorem d_S_isBefore_38 : gD m_S_isBefore 38 (.iload 4) 2 40 := ⟨by decide +kernel, rfl⟩
theorem d_S_isBefore_40 : gD m_S_isBefore 40 (.if_icmp .ne 31) 3 43 := ⟨by decide +kernel, rfl⟩
theorem d_S_isBefore_43 : gD m_S_isBefore 43 (.aload_n 0) 1 44 := ⟨by decide +kernel, rfl⟩
theorem d_S_isBefore_44 : gD m_S_isBefore 44 (.getfield 18) 3 47 := ⟨by decide +kernel, rfl⟩
theorem d_S_isBefore_47 : gD m_S_isBefore 47 (.iload_n 2) 1 48 := ⟨by decide +kernel, rfl⟩
theorem d_S_isBefore_48 : gD m_S_isBefore 48 (.aload_n 0) 1 49 := ⟨by decide +kernel, rfl⟩
theorem d_S_isBefore_49 : gD m_S_isBefore 49 (.getfield 33) 3 52 := ⟨by decide +kernel, rfl⟩
theorem d_S_isBefore_52 : gD m_S_isBefore 52 (.invokevirtual 79) 3 55 := ⟨by decide +kernel, rfl⟩
theorem d_S_isBefore_55 : gD m_S_isBefore 55 (.aload_n 1) 1 56 := ⟨by decide +kernel, rfl⟩
theorem d_S_isBefore_56 : gD m_S_isBefore 56 (.getfield 83) 3 59 := ⟨by decide +kernel, rfl⟩
theorem d_S_isBefore_59 : gD m_S_isBefore 59 (.aload_n 0) 1 60 := ⟨by decide +kernel, rfl⟩
theorem d_S_isBefore_60 : gD m_S_isBefore 60 (.getfield 33) 3 63 := ⟨by decide +kernel, rfl⟩
theorem d_S_isBefore_63 : gD m_S_isBefore 63 .iaload 1 64 := ⟨by decide +kernel, rfl⟩
theorem d_S_isBefore_64 : gD m_S_isBefore 64 (.if_icmp .ge 7) 3 67 := ⟨by decide +kernel, rfl⟩
theorem d_S_isBefore_67 : gD m_S_isBefore 67 (.iconst 1) 1 68 := ⟨by decide +kernel, rfl⟩
theorem d_S_isBefore_68 : gD m_S_isBefore 68 (.goto 4) 3 71 := ⟨by decide +kernel, rfl⟩
theorem d_S_isBefore_71 : gD m_S_isBefore 71 (.iconst 0) 1 72 := ⟨by decide +kernel, rfl⟩
theorem d_S_isBefore_72 : gD m_S_isBefore 72 .ireturn 1 73 := ⟨by decide +kernel, rfl⟩
theorem d_T_at_0 : gD m_T_at 0 (.aload_n 0) 1 1 := ⟨by decide +kernel, rfl⟩
theorem d_T_at_1 : gD m_T_at 1 (.getfield 9) 3 4 := ⟨by decide +kernel, rfl⟩
theorem d_T_at_4 : gD m_T_at 4 (.iload_n 1) 1 5 := ⟨by decide +kernel, rfl⟩
theorem d_T_at_5 : gD m_T_at 5 (.iconst 3) 1 6 := ⟨by decide +kernel, rfl⟩
theorem d_T_at_6 : gD m_T_at 6 .imul 1 7 := ⟨by decide +kernel, rfl⟩
theorem d_T_at_7 : gD m_T_at 7 (.iload_n 2) 1 8 := ⟨by decide +kernel, rfl⟩
theorem d_T_at_8 : gD m_T_at 8 .iadd 1 9 := ⟨by decide +kernel, rfl⟩
theorem d_T_at_9 : gD m_T_at 9 .iaload 1 10 := ⟨by decide +kernel, rfl⟩
theorem d_T_at_10 : gD m_T_at 10 .ireturn 1 11 := ⟨by decide +kernel, rfl⟩
theorem d_S_isInside_0 : gD m_S_isInside 0 (.aload_n 1) 1 1 := ⟨by decide +kernel, rfl⟩
theorem d_S_isInside_1 : gD m_S_isInside 1 (.aload_n 0) 1 2 := ⟨by decide +kernel, rfl⟩
theorem d_S_isInside_2 : gD m_S_isInside 2 (.getfield 26) 3 5 := ⟨by decide +kernel, rfl⟩
theorem d_S_isInside_5 : gD m_S_isInside 5 (.aload_n 0) 1 6 := ⟨by decide +kernel, rfl⟩
theorem d_S_isInside_6 : gD m_S_isInside 6 (.getfield 18) 3 9 := ⟨by decide +kernel, rfl⟩
theorem d_S_isInside_9 : gD m_S_isInside 9 (.iload_n 2) 1 10 := ⟨by decide +kernel, rfl⟩
theorem d_S_isInside_10 : gD m_S_isInside 10 (.aload_n 0) 1 11 := ⟨by decide +kernel, rfl⟩
theorem d_S_isInside_11 : gD m_S_isInside 11 (.getfield 26) 3 14 := ⟨by decide +kernel, rfl⟩
theorem d_S_isInside_14 : gD m_S_isInside 14 (.invokevirtual 79) 3 17 := ⟨by decide +kernel, rfl⟩
theorem d_S_isInside_17 : gD m_S_isInside 17 (.invokevirtual 86) 3 20 := ⟨by decide +kernel, rfl⟩
theorem d_S_isInside_20 : gD m_S_isInside 20 (.ifCond .eq 37) 3 23 := ⟨by decide +kernel, rfl⟩
theorem d_S_isInside_23 : gD m_S_isInside 23 (.aload_n 0) 1 24 := ⟨by decide +kernel, rfl⟩
theorem d_S_isInside_24 : gD m_S_isInside 24 (.getfield 45) 3 27 := ⟨by decide +kernel, rfl⟩
theorem d_S_isInside_27 : gD m_S_isInside 27 (.ifCond .eq 26) 3 30 := ⟨by decide +kernel, rfl⟩
theorem d_S_isInside_30 : gD m_S_isInside 30 (.aload_n 1) 1 31 := ⟨by decide +kernel, rfl⟩
theorem d_S_isInside_31 : gD m_S_isInside 31 (.aload_n 0) 1 32 := ⟨by decide +kernel, rfl⟩
theorem d_S_isInside_32 : gD m_S_isInside 32 (.getfield 33) 3 35 := ⟨by decide +kernel, rfl⟩
theorem d_S_isInside_35 : gD m_S_isInside 35 (.aload_n 0) 1 36 := ⟨by decide +kernel, rfl⟩
theorem d_S_isInside_36 : gD m_S_isInside 36 (.getfield 18) 3 39 := ⟨by decide +kernel, rfl⟩
theorem d_S_isInside_39 : gD m_S_isInside 39 (.iload_n 2) 1 40 := ⟨by decide +kernel, rfl⟩
theorem d_S_isInside_40 : gD m_S_isInside 40 (.aload_n 0) 1 41 := ⟨by decide +kernel, rfl⟩
theorem d_S_isInside_41 : gD m_S_isInside 41 (.getfield 33) 3 44 := ⟨by decide +kernel, rfl⟩
theorem d_S_isInside_44 : gD m_S_isInside 44 (.invokevirtual 79) 3 47 := ⟨by decide +kernel, rfl⟩
theorem d_S_isInside_47 : gD m_S_isInside 47 (.invokevirtual 86) 3 50 := ⟨by decide +kernel, rfl⟩
theorem d_S_isInside_50 : gD m_S_isInside 50 (.ifCond .eq 7) 3 53 := ⟨by decide +kernel, rfl⟩
theorem d_S_isInside_53 : gD m_S_isInside 53 (.iconst 1) 1 54 := ⟨by decide +kernel, rfl⟩
theorem d_S_isInside_54 : gD m_S_isInside 54 (.goto 4) 3 57 := ⟨by decide +kernel, rfl⟩
theorem d_S_isInside_57 : gD m_S_isInside 57 (.iconst 0) 1 58 := ⟨by decide +kernel, rfl⟩
theorem d_S_isInside_58 : gD m_S_isInside 58 .ireturn 1 59 := ⟨by decide +kernel, rfl⟩
theorem d_C_fit_0 : gD m_C_fit 0 (.aload_n 0) 1 1 := ⟨by decide +kernel, rfl⟩
theorem d_C_fit_1 : gD m_C_fit 1 (.getfield 9) 3 4 := ⟨by decide +kernel, rfl⟩
theorem d_C_fit_4 : gD m_C_fit 4 (.iload_n 1) 1 5 := ⟨by decide +kernel, rfl⟩
theorem d_C_fit_5 : gD m_C_fit 5 .iaload 1 6 := ⟨by decide +kernel, rfl⟩
theorem d_C_fit_6 : gD m_C_fit 6 (.ifCond .eq 23) 3 9 := ⟨by decide +kernel, rfl⟩
theorem d_C_fit_9 : gD m_C_fit 9 (.aload_n 0) 1 10 := ⟨by decide +kernel, rfl⟩
theorem d_C_fit_10 : gD m_C_fit 10 (.getfield 15) 3 13 := ⟨by decide +kernel, rfl⟩
theorem d_C_fit_13 : gD m_C_fit 13 (.iload_n 1) 1 14 := ⟨by decide +kernel, rfl⟩
theorem d_C_fit_14 : gD m_C_fit 14 .iaload 1 15 := ⟨by decide +kernel, rfl⟩
theorem d_C_fit_15 : gD m_C_fit 15 (.iload_n 2) 1 16 := ⟨by decide +kernel, rfl⟩
theorem d_C_fit_16 : gD m_C_fit 16 (.if_icmp .gt 17) 3 19 := ⟨by decide +kernel, rfl⟩
theorem d_C_fit_19 : gD m_C_fit 19 (.iload_n 2) 1 20 := ⟨by decide +kernel, rfl⟩
theorem d_C_fit_20 : gD m_C_fit 20 (.aload_n 0) 1 21 := ⟨by decide +kernel, rfl⟩
theorem d_C_fit_21 : gD m_C_fit 21 (.getfield 18) 3 24 := ⟨by decide +kernel, rfl⟩
theorem d_C_fit_24 : gD m_C_fit 24 (.iload_n 1) 1 25 := ⟨by decide +kernel, rfl⟩
theorem d_C_fit_25 : gD m_C_fit 25 .iaload 1 26 := ⟨by decide +kernel, rfl⟩
theorem d_C_fit_26 : gD m_C_fit 26 (.if_icmp .gt 7) 3 29 := ⟨by decide +kernel, rfl⟩
theorem d_C_fit_29 : gD m_C_fit 29 (.iconst 1) 1 30 := ⟨by decide +kernel, rfl⟩
theorem d_C_fit_30 : gD m_C_fit 30 (.goto 4) 3 33 := ⟨by decide +kernel, rfl⟩
theorem d_C_fit_33 : gD m_C_fit 33 (.iconst 0) 1 34 := ⟨by decide +kernel, rfl⟩
theorem d_C_fit_34 : gD m_C_fit 34 .ireturn 1 35 := ⟨by decide +kernel, rfl⟩
theorem d_R_append_0 : gD m_R_append 0 (.aload_n 0) 1 1 := ⟨by decide +kernel, rfl⟩
theorem d_R_append_1 : gD m_R_append 1 (.getfield 15) 3 4 := ⟨by decide +kernel, rfl⟩
theorem d_R_append_4 : gD m_R_append 4 (.aload_n 0) 1 5 := ⟨by decide +kernel, rfl⟩
theorem d_R_append_5 : gD m_R_append 5 (.getfield 9) 3 8 := ⟨by decide +kernel, rfl⟩
theorem d_R_append_8 : gD m_R_append 8 .arraylength 1 9 := ⟨by decide +kernel, rfl⟩
theorem d_R_append_9 : gD m_R_append 9 (.if_icmp .ge 23) 3 12 := ⟨by decide +kernel, rfl⟩
theorem d_R_append_12 : gD m_R_append 12 (.aload_n 0) 1 13 := ⟨by decide +kernel, rfl⟩
theorem d_R_append_13 : gD m_R_append 13 (.getfield 9) 3 16 := ⟨by decide +kernel, rfl⟩
theorem d_R_append_16 : gD m_R_append 16 (.aload_n 0) 1 17 := ⟨by decide +kernel, rfl⟩
theorem d_R_append_17 : gD m_R_append 17 (.getfield 15) 3 20 := ⟨by decide +kernel, rfl⟩
theorem d_R_append_20 : gD m_R_append 20 (.iload_n 1) 1 21 := ⟨by decide +kernel, rfl⟩
theorem d_R_append_21 : gD m_R_append 21 .iastore 1 22 := ⟨by decide +kernel, rfl⟩
theorem d_R_append_22 : gD m_R_append 22 (.aload_n 0) 1 23 := ⟨by decide +kernel, rfl⟩
theorem d_R_append_23 : gD m_R_append 23 .dup 1 24 := ⟨by decide +kernel, rfl⟩
theorem d_R_append_24 : gD m_R_append 24 (.getfield 15) 3 27 := ⟨by decide +kernel, rfl⟩
theorem d_R_append_27 : gD m_R_append 27 (.iconst 1) 1 28 := ⟨by decide +kernel, rfl⟩
theorem d_R_append_28 : gD m_R_append 28 .iadd 1 29 := ⟨by decide +kernel, rfl⟩
theorem d_R_append_29 : gD m_R_append 29 (.putfield 15) 3 32 := ⟨by decide +kernel, rfl⟩
theorem d_R_append_32 : gD m_R_append 32 .return_ 1 33 := ⟨by decide +kernel, rfl⟩
theorem d_S_pages_0 : gD m_S_pages 0 (.aload_n 0) 1 1 := ⟨by decide +kernel, rfl⟩
theorem d_S_pages_1 : gD m_S_pages 1 (.getfield 18) 3 4 := ⟨by decide +kernel, rfl⟩
theorem d_S_pages_4 : gD m_S_pages 4 (.invokevirtual 103) 3 7 := ⟨by decide +kernel, rfl⟩
theorem d_S_pages_7 : gD m_S_pages 7 (.aload_n 0) 1 8 := ⟨by decide +kernel, rfl⟩
theorem d_S_pages_8 : gD m_S_pages 8 (.invokevirtual 106) 3 11 := ⟨by decide +kernel, rfl⟩
theorem d_S_pages_11 : gD m_S_pages 11 .iadd 1 12 := ⟨by decide +kernel, rfl⟩
theorem d_S_pages_12 : gD m_S_pages 12 (.aload_n 0) 1 13 := ⟨by decide +kernel, rfl⟩
theorem d_S_pages_13 : gD m_S_pages 13 (.getfield 12) 3 16 := ⟨by decide +kernel, rfl⟩
theorem d_S_pages_16 : gD m_S_pages 16 (.getfield 52) 3 19 := ⟨by decide +kernel, rfl⟩
theorem d_S_pages_19 : gD m_S_pages 19 .iadd 1 20 := ⟨by decide +kernel, rfl⟩
theorem d_S_pages_20 : gD m_S_pages 20 .ireturn 1 21 := ⟨by decide +kernel, rfl⟩
theorem d_T_indexHeight_0 : gD m_T_indexHeight 0 (.iconst 0) 1 1 := ⟨by decide +kernel, rfl⟩
theorem d_T_indexHeight_1 : gD m_T_indexHeight 1 (.istore_n 1) 1 2 := ⟨by decide +kernel, rfl⟩
theorem d_T_indexHeight_2 : gD m_T_indexHeight 2 (.aload_n 0) 1 3 := ⟨by decide +kernel, rfl⟩
theorem d_T_indexHeight_3 : gD m_T_indexHeight 3 (.invokevirtual 40) 3 6 := ⟨by decide +kernel, rfl⟩
theorem d_T_indexHeight_6 : gD m_T_indexHeight 6 (.istore_n 2) 1 7 := ⟨by decide +kernel, rfl⟩
theorem d_T_indexHeight_7 : gD m_T_indexHeight 7 (.iload_n 2) 1 8 := ⟨by decide +kernel, rfl⟩
theorem d_T_indexHeight_8 : gD m_T_indexHeight 8 (.iconst 1) 1 9 := ⟨by decide +kernel, rfl⟩
theorem d_T_indexHeight_9 : gD m_T_indexHeight 9 (.if_icmp .le 20) 3 12 := ⟨by decide +kernel, rfl⟩
theorem d_T_indexHeight_12 : gD m_T_indexHeight 12 (.iload_n 1) 1 13 := ⟨by decide +kernel, rfl⟩
theorem d_T_indexHeight_13 : gD m_T_indexHeight 13 (.bipush 64) 2 15 := ⟨by decide +kernel, rfl⟩
theorem d_T_indexHeight_15 : gD m_T_indexHeight 15 (.if_icmp .ge 14) 3 18 := ⟨by decide +kernel, rfl⟩
theorem d_T_indexHeight_18 : gD m_T_indexHeight 18 (.iload_n 2) 1 19 := ⟨by decide +kernel, rfl⟩
theorem d_T_indexHeight_19 : gD m_T_indexHeight 19 (.invokestatic 30) 3 22 := ⟨by decide +kernel, rfl⟩
theorem d_T_indexHeight_22 : gD m_T_indexHeight 22 (.istore_n 2) 1 23 := ⟨by decide +kernel, rfl⟩
theorem d_T_indexHeight_23 : gD m_T_indexHeight 23 (.iinc 1 1) 3 26 := ⟨by decide +kernel, rfl⟩
theorem d_T_indexHeight_26 : gD m_T_indexHeight 26 (.goto (-19)) 3 29 := ⟨by decide +kernel, rfl⟩
theorem d_T_indexHeight_29 : gD m_T_indexHeight 29 (.iload_n 1) 1 30 := ⟨by decide +kernel, rfl⟩
theorem d_T_indexHeight_30 : gD m_T_indexHeight 30 .ireturn 1 31 := ⟨by decide +kernel, rfl⟩
theorem d_T_indexLeaves_0 : gD m_T_indexLeaves 0 (.iconst 1) 1 1 := ⟨by decide +kernel, rfl⟩
theorem d_T_indexLeaves_1 : gD m_T_indexLeaves 1 (.aload_n 0) 1 2 := ⟨by decide +kernel, rfl⟩
theorem d_T_indexLeaves_2 : gD m_T_indexLeaves 2 (.getfield 27) 3 5 := ⟨by decide +kernel, rfl⟩
theorem d_T_indexLeaves_5 : gD m_T_indexLeaves 5 (.invokestatic 30) 3 8 := ⟨by decide +kernel, rfl⟩
theorem d_T_indexLeaves_8 : gD m_T_indexLeaves 8 (.invokestatic 34) 3 11 := ⟨by decide +kernel, rfl⟩
theorem d_T_indexLeaves_11 : gD m_T_indexLeaves 11 .ireturn 1 12 := ⟨by decide +kernel, rfl⟩
theorem d_S_leaves_0 : gD m_S_leaves 0 (.aload_n 0) 1 1 := ⟨by decide +kernel, rfl⟩
theorem d_S_leaves_1 : gD m_S_leaves 1 (.getfield 12) 3 4 := ⟨by decide +kernel, rfl⟩
theorem d_S_leaves_4 : gD m_S_leaves 4 (.getfield 52) 3 7 := ⟨by decide +kernel, rfl⟩
theorem d_S_leaves_7 : gD m_S_leaves 7 (.ifCond .ne 5) 3 10 := ⟨by decide +kernel, rfl⟩
theorem d_S_leaves_10 : gD m_S_leaves 10 (.iconst 1) 1 11 := ⟨by decide +kernel, rfl⟩
theorem d_S_leaves_11 : gD m_S_leaves 11 .ireturn 1 12 := ⟨by decide +kernel, rfl⟩
theorem d_S_leaves_12 : gD m_S_leaves 12 (.aload_n 0) 1 13 := ⟨by decide +kernel, rfl⟩
theorem d_S_leaves_13 : gD m_S_leaves 13 (.getfield 49) 3 16 := ⟨by decide +kernel, rfl⟩
theorem d_S_leaves_16 : gD m_S_leaves 16 (.aload_n 0) 1 17 := ⟨by decide +kernel, rfl⟩
theorem d_S_leaves_17 : gD m_S_leaves 17 (.getfield 12) 3 20 := ⟨by decide +kernel, rfl⟩
theorem d_S_leaves_20 : gD m_S_leaves 20 (.getfield 52) 3 23 := ⟨by decide +kernel, rfl⟩
theorem d_S_leaves_23 : gD m_S_leaves 23 .iadd 1 24 := ⟨by decide +kernel, rfl⟩
theorem d_S_leaves_24 : gD m_S_leaves 24 (.iconst 1) 1 25 := ⟨by decide +kernel, rfl⟩
theorem d_S_leaves_25 : gD m_S_leaves 25 .isub 1 26 := ⟨by decide +kernel, rfl⟩
theorem d_S_leaves_26 : gD m_S_leaves 26 (.iconst 4) 1 27 := ⟨by decide +kernel, rfl⟩
theorem d_S_leaves_27 : gD m_S_leaves 27 .idiv 1 28 := ⟨by decide +kernel, rfl⟩
theorem d_S_leaves_28 : gD m_S_leaves 28 (.aload_n 0) 1 29 := ⟨by decide +kernel, rfl⟩
theorem d_S_leaves_29 : gD m_S_leaves 29 (.getfield 49) 3 32 := ⟨by decide +kernel, rfl⟩
theorem d_S_leaves_32 : gD m_S_leaves 32 (.iconst 4) 1 33 := ⟨by decide +kernel, rfl⟩
theorem d_S_leaves_33 : gD m_S_leaves 33 .idiv 1 34 := ⟨by decide +kernel, rfl⟩
theorem d_S_leaves_34 : gD m_S_leaves 34 .isub 1 35 := ⟨by decide +kernel, rfl⟩
theorem d_S_leaves_35 : gD m_S_leaves 35 (.iconst 1) 1 36 := ⟨by decide +kernel, rfl⟩
theorem d_S_leaves_36 : gD m_S_leaves 36 .iadd 1 37 := ⟨by decide +kernel, rfl⟩
theorem d_S_leaves_37 : gD m_S_leaves 37 .ireturn 1 38 := ⟨by decide +kernel, rfl⟩
theorem d_B_readySet_0 : gD m_B_readySet 0 (.iconst 0) 1 1 := ⟨by decide +kernel, rfl⟩
theorem d_B_readySet_1 : gD m_B_readySet 1 (.istore_n 1) 1 2 := ⟨by decide +kernel, rfl⟩
theorem d_B_readySet_2 : gD m_B_readySet 2 (.iconst 0) 1 3 := ⟨by decide +kernel, rfl⟩
theorem d_B_readySet_3 : gD m_B_readySet 3 (.istore_n 2) 1 4 := ⟨by decide +kernel, rfl⟩
theorem d_B_readySet_4 : gD m_B_readySet 4 (.iload_n 2) 1 5 := ⟨by decide +kernel, rfl⟩
theorem d_B_readySet_5 : gD m_B_readySet 5 (.bipush 9) 2 7 := ⟨by decide +kernel, rfl⟩
theorem d_B_readySet_7 : gD m_B_readySet 7 (.if_icmp .ge 25) 3 10 := ⟨by decide +kernel, rfl⟩
theorem d_B_readySet_10 : gD m_B_readySet 10 (.aload_n 0) 1 11 := ⟨by decide +kernel, rfl⟩
theorem d_B_readySet_11 : gD m_B_readySet 11 (.getfield 9) 3 14 := ⟨by decide +kernel, rfl⟩
theorem d_B_readySet_14 : gD m_B_readySet 14 (.iload_n 2) 1 15 := ⟨by decide +kernel, rfl⟩
theorem d_B_readySet_15 : gD m_B_readySet 15 .iaload 1 16 := ⟨by decide +kernel, rfl⟩
theorem d_B_readySet_16 : gD m_B_readySet 16 (.iconst 2) 1 17 := ⟨by decide +kernel, rfl⟩
theorem d_B_readySet_17 : gD m_B_readySet 17 (.if_icmp .ne 9) 3 20 := ⟨by decide +kernel, rfl⟩
theorem d_B_readySet_20 : gD m_B_readySet 20 (.iload_n 1) 1 21 := ⟨by decide +kernel, rfl⟩
theorem d_B_readySet_21 : gD m_B_readySet 21 (.iconst 1) 1 22 := ⟨by decide +kernel, rfl⟩
theorem d_B_readySet_22 : gD m_B_readySet 22 (.iload_n 2) 1 23 := ⟨by decide +kernel, rfl⟩
theorem d_B_readySet_23 : gD m_B_readySet 23 .ishl 1 24 := ⟨by decide +kernel, rfl⟩
theorem d_B_readySet_24 : gD m_B_readySet 24 .ior 1 25 := ⟨by decide +kernel, rfl⟩
theorem d_B_readySet_25 : gD m_B_readySet 25 (.istore_n 1) 1 26 := ⟨by decide +kernel, rfl⟩
theorem d_B_readySet_26 : gD m_B_readySet 26 (.iinc 2 1) 3 29 := ⟨by decide +kernel, rfl⟩
theorem d_B_readySet_29 : gD m_B_readySet 29 (.goto (-25)) 3 32 := ⟨by decide +kernel, rfl⟩
theorem d_B_readySet_32 : gD m_B_readySet 32 (.iload_n 1) 1 33 := ⟨by decide +kernel, rfl⟩
theorem d_B_readySet_33 : gD m_B_readySet 33 .ireturn 1 34 := ⟨by decide +kernel, rfl⟩
theorem d_W_cheapest_0 : gD m_W_cheapest 0 (.iconst (-1)) 1 1 := ⟨by decide +kernel, rfl⟩
theorem d_W_cheapest_1 : gD m_W_cheapest 1 (.istore_n 2) 1 2 := ⟨by decide +kernel, rfl⟩
theorem d_W_cheapest_2 : gD m_W_cheapest 2 (.iconst 0) 1 3 := ⟨by decide +kernel, rfl⟩
theorem d_W_cheapest_3 : gD m_W_cheapest 3 (.istore_n 3) 1 4 := ⟨by decide +kernel, rfl⟩
theorem d_W_cheapest_4 : gD m_W_cheapest 4 (.iload_n 3) 1 5 := ⟨by decide +kernel, rfl⟩
theorem d_W_cheapest_5 : gD m_W_cheapest 5 (.bipush 9) 2 7 := ⟨by decide +kernel, rfl⟩
theorem d_W_cheapest_7 : gD m_W_cheapest 7 (.if_icmp .ge 55) 3 10 := ⟨by decide +kernel, rfl⟩
theorem d_W_cheapest_10 : gD m_W_cheapest 10 (.iload_n 1) 1 11 := ⟨by decide +kernel, rfl⟩
theorem d_W_cheapest_11 : gD m_W_cheapest 11 (.iload_n 3) 1 12 := ⟨by decide +kernel, rfl⟩
theorem d_W_cheapest_12 : gD m_W_cheapest 12 .ishr 1 13 := ⟨by decide +kernel, rfl⟩
theorem d_W_cheapest_13 : gD m_W_cheapest 13 (.iconst 1) 1 14 := ⟨by decide +kernel, rfl⟩
theorem d_W_cheapest_14 : gD m_W_cheapest 14 .iand 1 15 := ⟨by decide +kernel, rfl⟩
theorem d_W_cheapest_15 : gD m_W_cheapest 15 (.ifCond .eq 17) 3 18 := ⟨by decide +kernel, rfl⟩
theorem d_W_cheapest_18 : gD m_W_cheapest 18 (.aload_n 0) 1 19 := ⟨by decide +kernel, rfl⟩
theorem d_W_cheapest_19 : gD m_W_cheapest 19 (.getfield 9) 3 22 := ⟨by decide +kernel, rfl⟩
theorem d_W_cheapest_22 : gD m_W_cheapest 22 (.iload_n 3) 1 23 := ⟨by decide +kernel, rfl⟩
theorem d_W_cheapest_23 : gD m_W_cheapest 23 .iaload 1 24 := ⟨by decide +kernel, rfl⟩
theorem d_W_cheapest_24 : gD m_W_cheapest 24 (.iconst (-1)) 1 25 := ⟨by decide +kernel, rfl⟩
theorem d_W_cheapest_25 : gD m_W_cheapest 25 (.if_icmp .eq 7) 3 28 := ⟨by decide +kernel, rfl⟩
theorem d_W_cheapest_28 : gD m_W_cheapest 28 (.iconst 1) 1 29 := ⟨by decide +kernel, rfl⟩
theorem d_W_cheapest_29 : gD m_W_cheapest 29 (.goto 4) 3 32 := ⟨by decide +kernel, rfl⟩
theorem d_W_cheapest_32 : gD m_W_cheapest 32 (.iconst 0) 1 33 := ⟨by decide +kernel, rfl⟩
theorem d_W_cheapest_33 : gD m_W_cheapest 33 (.istore 4) 2 35 := ⟨by decide +kernel, rfl⟩
theorem d_W_cheapest_35 : gD m_W_cheapest 35 (.iload 4) 2 37 := ⟨by decide +kernel, rfl⟩
theorem d_W_cheapest_37 : gD m_W_cheapest 37 (.ifCond .eq 19) 3 40 := ⟨by decide +kernel, rfl⟩
theorem d_W_cheapest_40 : gD m_W_cheapest 40 (.aload_n 0) 1 41 := ⟨by decide +kernel, rfl⟩
theorem d_W_cheapest_41 : gD m_W_cheapest 41 (.getfield 9) 3 44 := ⟨by decide +kernel, rfl⟩
theorem d_W_cheapest_44 : gD m_W_cheapest 44 (.iload_n 3) 1 45 := ⟨by decide +kernel, rfl⟩
theorem d_W_cheapest_45 : gD m_W_cheapest 45 .iaload 1 46 := ⟨by decide +kernel, rfl⟩
theorem d_W_cheapest_46 : gD m_W_cheapest 46 (.aload_n 0) 1 47 := ⟨by decide +kernel, rfl⟩
theorem d_W_cheapest_47 : gD m_W_cheapest 47 (.iload_n 2) 1 48 := ⟨by decide +kernel, rfl⟩
theorem d_W_cheapest_48 : gD m_W_cheapest 48 (.invokevirtual 43) 3 51 := ⟨by decide +kernel, rfl⟩
theorem d_W_cheapest_51 : gD m_W_cheapest 51 (.if_icmp .ge 5) 3 54 := ⟨by decide +kernel, rfl⟩
theorem d_W_cheapest_54 : gD m_W_cheapest 54 (.iload_n 3) 1 55 := ⟨by decide +kernel, rfl⟩
theorem d_W_cheapest_55 : gD m_W_cheapest 55 (.istore_n 2) 1 56 := ⟨by decide +kernel, rfl⟩
theorem d_W_cheapest_56 : gD m_W_cheapest 56 (.iinc 3 1) 3 59 := ⟨by decide +kernel, rfl⟩
theorem d_W_cheapest_59 : gD m_W_cheapest 59 (.goto (-55)) 3 62 := ⟨by decide +kernel, rfl⟩
theorem d_W_cheapest_62 : gD m_W_cheapest 62 (.iload_n 2) 1 63 := ⟨by decide +kernel, rfl⟩
theorem d_W_cheapest_63 : gD m_W_cheapest 63 .ireturn 1 64 := ⟨by decide +kernel, rfl⟩
theorem d_W_at_0 : gD m_W_at 0 (.iload_n 1) 1 1 := ⟨by decide +kernel, rfl⟩
theorem d_W_at_1 : gD m_W_at 1 (.iconst (-1)) 1 2 := ⟨by decide +kernel, rfl⟩
theorem d_W_at_2 : gD m_W_at 2 (.if_icmp .ne 10) 3 5 := ⟨by decide +kernel, rfl⟩
theorem d_W_at_5 : gD m_W_at 5 (.aload_n 0) 1 6 := ⟨by decide +kernel, rfl⟩
theorem d_W_at_6 : gD m_W_at 6 (.getfield 21) 3 9 := ⟨by decide +kernel, rfl⟩
theorem d_W_at_9 : gD m_W_at 9 (.goto 9) 3 12 := ⟨by decide +kernel, rfl⟩
theorem d_W_at_12 : gD m_W_at 12 (.aload_n 0) 1 13 := ⟨by decide +kernel, rfl⟩
theorem d_W_at_13 : gD m_W_at 13 (.getfield 9) 3 16 := ⟨by decide +kernel, rfl⟩
theorem d_W_at_16 : gD m_W_at 16 (.iload_n 1) 1 17 := ⟨by decide +kernel, rfl⟩
theorem d_W_at_17 : gD m_W_at 17 .iaload 1 18 := ⟨by decide +kernel, rfl⟩
theorem d_W_at_18 : gD m_W_at 18 .ireturn 1 19 := ⟨by decide +kernel, rfl⟩
theorem d_A_touchPages_0 : gD m_A_touchPages 0 (.aload_n 0) 1 1 := ⟨by decide +kernel, rfl⟩
theorem d_A_touchPages_1 : gD m_A_touchPages 1 (.getfield 44) 3 4 := ⟨by decide +kernel, rfl⟩
theorem d_A_touchPages_4 : gD m_A_touchPages 4 (.invokevirtual 295) 3 7 := ⟨by decide +kernel, rfl⟩
theorem d_A_touchPages_7 : gD m_A_touchPages 7 (.aload_n 0) 1 8 := ⟨by decide +kernel, rfl⟩
end
