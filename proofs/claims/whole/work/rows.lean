section
/-- a private method of a class that the tables say can be made, by its rows of tables_1 -/
def lw_okq (q : MethodName × Nat) : Prop := (q.1.cls ≠ "java/lang/invoke/MethodHandle" ∧ q.1.cls ≠ "java/lang/invoke/VarHandle") ∧ Cond.instantiable q.1.cls q.2 ∈ tables_1 ∧ Cond.privateMethod q.1 ∈ tables_1 ∧ Cond.instanceMethod q.1 ∈ tables_1
theorem lw_p0 : lw_okq (⟨"PatchedMachine$Program", "clearClass", "(I)V"⟩, 5) := ⟨⟨by decide +kernel, by decide +kernel⟩, List.mem_of_getElem? (i := 23) (by decide +kernel), List.mem_of_getElem? (i := 297) (by decide +kernel), List.mem_of_getElem? (i := 298) (by decide +kernel)⟩
theorem lw_p1 : lw_okq (⟨"PatchedMachine$Layout", "clear", "()V"⟩, 4) := ⟨⟨by decide +kernel, by decide +kernel⟩, List.mem_of_getElem? (i := 32) (by decide +kernel), List.mem_of_getElem? (i := 301) (by decide +kernel), List.mem_of_getElem? (i := 302) (by decide +kernel)⟩
theorem lw_p2 : lw_okq (⟨"PatchedMachine$Program", "touchesClass", "(I)Z"⟩, 5) := ⟨⟨by decide +kernel, by decide +kernel⟩, List.mem_of_getElem? (i := 23) (by decide +kernel), List.mem_of_getElem? (i := 309) (by decide +kernel), List.mem_of_getElem? (i := 310) (by decide +kernel)⟩
theorem lw_p3 : lw_okq (⟨"PatchedMachine$Layout", "isFull", "()Z"⟩, 4) := ⟨⟨by decide +kernel, by decide +kernel⟩, List.mem_of_getElem? (i := 32) (by decide +kernel), List.mem_of_getElem? (i := 319) (by decide +kernel), List.mem_of_getElem? (i := 320) (by decide +kernel)⟩
theorem lw_p4 : lw_okq (⟨"PatchedMachine$Layout", "find", "(I)I"⟩, 4) := ⟨⟨by decide +kernel, by decide +kernel⟩, List.mem_of_getElem? (i := 32) (by decide +kernel), List.mem_of_getElem? (i := 323) (by decide +kernel), List.mem_of_getElem? (i := 324) (by decide +kernel)⟩
theorem lw_p5 : lw_okq (⟨"PatchedMachine$PatchLine", "newest", "()LPatchedMachine$Program;"⟩, 3) := ⟨⟨by decide +kernel, by decide +kernel⟩, List.mem_of_getElem? (i := 124) (by decide +kernel), List.mem_of_getElem? (i := 327) (by decide +kernel), List.mem_of_getElem? (i := 328) (by decide +kernel)⟩
theorem lw_p6 : lw_okq (⟨"PatchedMachine$Layout", "typeNamed", "(I)I"⟩, 4) := ⟨⟨by decide +kernel, by decide +kernel⟩, List.mem_of_getElem? (i := 32) (by decide +kernel), List.mem_of_getElem? (i := 331) (by decide +kernel), List.mem_of_getElem? (i := 332) (by decide +kernel)⟩
theorem lw_p7 : lw_okq (⟨"PatchedMachine$Layout", "add", "(III)V"⟩, 4) := ⟨⟨by decide +kernel, by decide +kernel⟩, List.mem_of_getElem? (i := 32) (by decide +kernel), List.mem_of_getElem? (i := 336) (by decide +kernel), List.mem_of_getElem? (i := 337) (by decide +kernel)⟩
theorem lw_p8 : lw_okq (⟨"PatchedMachine$Program", "beginMethod", "(IIII)V"⟩, 5) := ⟨⟨by decide +kernel, by decide +kernel⟩, List.mem_of_getElem? (i := 23) (by decide +kernel), List.mem_of_getElem? (i := 348) (by decide +kernel), List.mem_of_getElem? (i := 349) (by decide +kernel)⟩
theorem lw_p9 : lw_okq (⟨"PatchedMachine$Routine", "begin", "(III)V"⟩, 7) := ⟨⟨by decide +kernel, by decide +kernel⟩, List.mem_of_getElem? (i := 57) (by decide +kernel), List.mem_of_getElem? (i := 352) (by decide +kernel), List.mem_of_getElem? (i := 353) (by decide +kernel)⟩
theorem lw_p10 : lw_okq (⟨"PatchedMachine$Program", "touchesMethod", "(I)Z"⟩, 5) := ⟨⟨by decide +kernel, by decide +kernel⟩, List.mem_of_getElem? (i := 23) (by decide +kernel), List.mem_of_getElem? (i := 360) (by decide +kernel), List.mem_of_getElem? (i := 361) (by decide +kernel)⟩
theorem lw_p11 : lw_okq (⟨"PatchedMachine$Routine", "isFull", "()Z"⟩, 7) := ⟨⟨by decide +kernel, by decide +kernel⟩, List.mem_of_getElem? (i := 57) (by decide +kernel), List.mem_of_getElem? (i := 364) (by decide +kernel), List.mem_of_getElem? (i := 365) (by decide +kernel)⟩
theorem lw_p12 : lw_okq (⟨"PatchedMachine$Routine", "add", "(III)V"⟩, 7) := ⟨⟨by decide +kernel, by decide +kernel⟩, List.mem_of_getElem? (i := 57) (by decide +kernel), List.mem_of_getElem? (i := 374) (by decide +kernel), List.mem_of_getElem? (i := 375) (by decide +kernel)⟩
theorem lw_p13 : lw_okq (⟨"PatchedMachine$Program", "touchesAnything", "()Z"⟩, 5) := ⟨⟨by decide +kernel, by decide +kernel⟩, List.mem_of_getElem? (i := 23) (by decide +kernel), List.mem_of_getElem? (i := 383) (by decide +kernel), List.mem_of_getElem? (i := 384) (by decide +kernel)⟩
theorem lw_p14 : lw_okq (⟨"PatchedMachine$Program", "beginAs", "(LPatchedMachine$Program;)V"⟩, 5) := ⟨⟨by decide +kernel, by decide +kernel⟩, List.mem_of_getElem? (i := 23) (by decide +kernel), List.mem_of_getElem? (i := 387) (by decide +kernel), List.mem_of_getElem? (i := 388) (by decide +kernel)⟩
theorem lw_p15 : lw_okq (⟨"PatchedMachine$Program", "copy", "(LPatchedMachine$Program;)V"⟩, 5) := ⟨⟨by decide +kernel, by decide +kernel⟩, List.mem_of_getElem? (i := 23) (by decide +kernel), List.mem_of_getElem? (i := 391) (by decide +kernel), List.mem_of_getElem? (i := 392) (by decide +kernel)⟩
def lw_privs_1 : List (MethodName × Nat) := [(⟨"PatchedMachine$Program", "clearClass", "(I)V"⟩, 5), (⟨"PatchedMachine$Layout", "clear", "()V"⟩, 4), (⟨"PatchedMachine$Program", "touchesClass", "(I)Z"⟩, 5), (⟨"PatchedMachine$Layout", "isFull", "()Z"⟩, 4), (⟨"PatchedMachine$Layout", "find", "(I)I"⟩, 4), (⟨"PatchedMachine$PatchLine", "newest", "()LPatchedMachine$Program;"⟩, 3), (⟨"PatchedMachine$Layout", "typeNamed", "(I)I"⟩, 4), (⟨"PatchedMachine$Layout", "add", "(III)V"⟩, 4), (⟨"PatchedMachine$Program", "beginMethod", "(IIII)V"⟩, 5), (⟨"PatchedMachine$Routine", "begin", "(III)V"⟩, 7), (⟨"PatchedMachine$Program", "touchesMethod", "(I)Z"⟩, 5), (⟨"PatchedMachine$Routine", "isFull", "()Z"⟩, 7), (⟨"PatchedMachine$Routine", "add", "(III)V"⟩, 7), (⟨"PatchedMachine$Program", "touchesAnything", "()Z"⟩, 5), (⟨"PatchedMachine$Program", "beginAs", "(LPatchedMachine$Program;)V"⟩, 5), (⟨"PatchedMachine$Program", "copy", "(LPatchedMachine$Program;)V"⟩, 5)]
theorem lw_r1 : ∀ q ∈ lw_privs_1, lw_okq q := List.forall_mem_cons.mpr ⟨lw_p0, List.forall_mem_cons.mpr ⟨lw_p1, List.forall_mem_cons.mpr ⟨lw_p2, List.forall_mem_cons.mpr ⟨lw_p3, List.forall_mem_cons.mpr ⟨lw_p4, List.forall_mem_cons.mpr ⟨lw_p5, List.forall_mem_cons.mpr ⟨lw_p6, List.forall_mem_cons.mpr ⟨lw_p7, List.forall_mem_cons.mpr ⟨lw_p8, List.forall_mem_cons.mpr ⟨lw_p9, List.forall_mem_cons.mpr ⟨lw_p10, List.forall_mem_cons.mpr ⟨lw_p11, List.forall_mem_cons.mpr ⟨lw_p12, List.forall_mem_cons.mpr ⟨lw_p13, List.forall_mem_cons.mpr ⟨lw_p14, List.forall_mem_cons.mpr ⟨lw_p15, fun _ h => absurd h List.not_mem_nil⟩⟩⟩⟩⟩⟩⟩⟩⟩⟩⟩⟩⟩⟩⟩⟩
theorem lw_p16 : lw_okq (⟨"PatchedMachine$Layout", "copy", "(LPatchedMachine$Layout;)V"⟩, 4) := ⟨⟨by decide +kernel, by decide +kernel⟩, List.mem_of_getElem? (i := 32) (by decide +kernel), List.mem_of_getElem? (i := 395) (by decide +kernel), List.mem_of_getElem? (i := 396) (by decide +kernel)⟩
theorem lw_p17 : lw_okq (⟨"PatchedMachine$Routine", "copy", "(LPatchedMachine$Routine;)V"⟩, 7) := ⟨⟨by decide +kernel, by decide +kernel⟩, List.mem_of_getElem? (i := 57) (by decide +kernel), List.mem_of_getElem? (i := 402) (by decide +kernel), List.mem_of_getElem? (i := 403) (by decide +kernel)⟩
theorem lw_p18 : lw_okq (⟨"PatchedMachine$PatchLine", "isFull", "()Z"⟩, 3) := ⟨⟨by decide +kernel, by decide +kernel⟩, List.mem_of_getElem? (i := 124) (by decide +kernel), List.mem_of_getElem? (i := 411) (by decide +kernel), List.mem_of_getElem? (i := 412) (by decide +kernel)⟩
theorem lw_p19 : lw_okq (⟨"PatchedMachine$Checker", "firstBadPlace", "(LPatchedMachine$Program;)I"⟩, 3) := ⟨⟨by decide +kernel, by decide +kernel⟩, List.mem_of_getElem? (i := 144) (by decide +kernel), List.mem_of_getElem? (i := 415) (by decide +kernel), List.mem_of_getElem? (i := 416) (by decide +kernel)⟩
theorem lw_p20 : lw_okq (⟨"PatchedMachine$Checker", "firstBadPlaceOf", "(LPatchedMachine$Routine;LPatchedMachine$Program;)I"⟩, 3) := ⟨⟨by decide +kernel, by decide +kernel⟩, List.mem_of_getElem? (i := 144) (by decide +kernel), List.mem_of_getElem? (i := 419) (by decide +kernel), List.mem_of_getElem? (i := 420) (by decide +kernel)⟩
theorem lw_p21 : lw_okq (⟨"PatchedMachine$Routine", "jumpsTo", "(I)Z"⟩, 7) := ⟨⟨by decide +kernel, by decide +kernel⟩, List.mem_of_getElem? (i := 57) (by decide +kernel), List.mem_of_getElem? (i := 423) (by decide +kernel), List.mem_of_getElem? (i := 424) (by decide +kernel)⟩
theorem lw_p22 : lw_okq (⟨"PatchedMachine$Checker", "needEmpty", "()V"⟩, 3) := ⟨⟨by decide +kernel, by decide +kernel⟩, List.mem_of_getElem? (i := 144) (by decide +kernel), List.mem_of_getElem? (i := 427) (by decide +kernel), List.mem_of_getElem? (i := 428) (by decide +kernel)⟩
theorem lw_p23 : lw_okq (⟨"PatchedMachine$Checker", "check", "(LPatchedMachine$Routine;ILPatchedMachine$Program;)V"⟩, 3) := ⟨⟨by decide +kernel, by decide +kernel⟩, List.mem_of_getElem? (i := 144) (by decide +kernel), List.mem_of_getElem? (i := 431) (by decide +kernel), List.mem_of_getElem? (i := 432) (by decide +kernel)⟩
theorem lw_p24 : lw_okq (⟨"PatchedMachine$Checker", "put", "(I)V"⟩, 3) := ⟨⟨by decide +kernel, by decide +kernel⟩, List.mem_of_getElem? (i := 144) (by decide +kernel), List.mem_of_getElem? (i := 435) (by decide +kernel), List.mem_of_getElem? (i := 436) (by decide +kernel)⟩
theorem lw_p25 : lw_okq (⟨"PatchedMachine$Checker", "take", "(I)V"⟩, 3) := ⟨⟨by decide +kernel, by decide +kernel⟩, List.mem_of_getElem? (i := 144) (by decide +kernel), List.mem_of_getElem? (i := 439) (by decide +kernel), List.mem_of_getElem? (i := 440) (by decide +kernel)⟩
theorem lw_p26 : lw_okq (⟨"PatchedMachine$Checker", "checkJump", "(LPatchedMachine$Routine;I)V"⟩, 3) := ⟨⟨by decide +kernel, by decide +kernel⟩, List.mem_of_getElem? (i := 144) (by decide +kernel), List.mem_of_getElem? (i := 443) (by decide +kernel), List.mem_of_getElem? (i := 444) (by decide +kernel)⟩
theorem lw_p27 : lw_okq (⟨"PatchedMachine$Routine", "hasPlace", "(I)Z"⟩, 7) := ⟨⟨by decide +kernel, by decide +kernel⟩, List.mem_of_getElem? (i := 57) (by decide +kernel), List.mem_of_getElem? (i := 447) (by decide +kernel), List.mem_of_getElem? (i := 448) (by decide +kernel)⟩
theorem lw_p28 : lw_okq (⟨"PatchedMachine$Checker", "checkGet", "(II)V"⟩, 3) := ⟨⟨by decide +kernel, by decide +kernel⟩, List.mem_of_getElem? (i := 144) (by decide +kernel), List.mem_of_getElem? (i := 452) (by decide +kernel), List.mem_of_getElem? (i := 453) (by decide +kernel)⟩
theorem lw_p29 : lw_okq (⟨"PatchedMachine$Checker", "needField", "(I)V"⟩, 3) := ⟨⟨by decide +kernel, by decide +kernel⟩, List.mem_of_getElem? (i := 144) (by decide +kernel), List.mem_of_getElem? (i := 456) (by decide +kernel), List.mem_of_getElem? (i := 457) (by decide +kernel)⟩
theorem lw_p30 : lw_okq (⟨"PatchedMachine$Checker", "checkPut", "(II)V"⟩, 3) := ⟨⟨by decide +kernel, by decide +kernel⟩, List.mem_of_getElem? (i := 144) (by decide +kernel), List.mem_of_getElem? (i := 460) (by decide +kernel), List.mem_of_getElem? (i := 461) (by decide +kernel)⟩
theorem lw_p31 : lw_okq (⟨"PatchedMachine$Checker", "checkCall", "(LPatchedMachine$Routine;)V"⟩, 3) := ⟨⟨by decide +kernel, by decide +kernel⟩, List.mem_of_getElem? (i := 144) (by decide +kernel), List.mem_of_getElem? (i := 464) (by decide +kernel), List.mem_of_getElem? (i := 465) (by decide +kernel)⟩
def lw_privs_2 : List (MethodName × Nat) := [(⟨"PatchedMachine$Layout", "copy", "(LPatchedMachine$Layout;)V"⟩, 4), (⟨"PatchedMachine$Routine", "copy", "(LPatchedMachine$Routine;)V"⟩, 7), (⟨"PatchedMachine$PatchLine", "isFull", "()Z"⟩, 3), (⟨"PatchedMachine$Checker", "firstBadPlace", "(LPatchedMachine$Program;)I"⟩, 3), (⟨"PatchedMachine$Checker", "firstBadPlaceOf", "(LPatchedMachine$Routine;LPatchedMachine$Program;)I"⟩, 3), (⟨"PatchedMachine$Routine", "jumpsTo", "(I)Z"⟩, 7), (⟨"PatchedMachine$Checker", "needEmpty", "()V"⟩, 3), (⟨"PatchedMachine$Checker", "check", "(LPatchedMachine$Routine;ILPatchedMachine$Program;)V"⟩, 3), (⟨"PatchedMachine$Checker", "put", "(I)V"⟩, 3), (⟨"PatchedMachine$Checker", "take", "(I)V"⟩, 3), (⟨"PatchedMachine$Checker", "checkJump", "(LPatchedMachine$Routine;I)V"⟩, 3), (⟨"PatchedMachine$Routine", "hasPlace", "(I)Z"⟩, 7), (⟨"PatchedMachine$Checker", "checkGet", "(II)V"⟩, 3), (⟨"PatchedMachine$Checker", "needField", "(I)V"⟩, 3), (⟨"PatchedMachine$Checker", "checkPut", "(II)V"⟩, 3), (⟨"PatchedMachine$Checker", "checkCall", "(LPatchedMachine$Routine;)V"⟩, 3)]
theorem lw_r2 : ∀ q ∈ lw_privs_2, lw_okq q := List.forall_mem_cons.mpr ⟨lw_p16, List.forall_mem_cons.mpr ⟨lw_p17, List.forall_mem_cons.mpr ⟨lw_p18, List.forall_mem_cons.mpr ⟨lw_p19, List.forall_mem_cons.mpr ⟨lw_p20, List.forall_mem_cons.mpr ⟨lw_p21, List.forall_mem_cons.mpr ⟨lw_p22, List.forall_mem_cons.mpr ⟨lw_p23, List.forall_mem_cons.mpr ⟨lw_p24, List.forall_mem_cons.mpr ⟨lw_p25, List.forall_mem_cons.mpr ⟨lw_p26, List.forall_mem_cons.mpr ⟨lw_p27, List.forall_mem_cons.mpr ⟨lw_p28, List.forall_mem_cons.mpr ⟨lw_p29, List.forall_mem_cons.mpr ⟨lw_p30, List.forall_mem_cons.mpr ⟨lw_p31, fun _ h => absurd h List.not_mem_nil⟩⟩⟩⟩⟩⟩⟩⟩⟩⟩⟩⟩⟩⟩⟩⟩
theorem lw_p32 : lw_okq (⟨"PatchedMachine$Routine", "isDefined", "()Z"⟩, 7) := ⟨⟨by decide +kernel, by decide +kernel⟩, List.mem_of_getElem? (i := 57) (by decide +kernel), List.mem_of_getElem? (i := 468) (by decide +kernel), List.mem_of_getElem? (i := 469) (by decide +kernel)⟩
theorem lw_p33 : lw_okq (⟨"PatchedMachine$Checker", "takeTwoPutInt", "(I)V"⟩, 3) := ⟨⟨by decide +kernel, by decide +kernel⟩, List.mem_of_getElem? (i := 144) (by decide +kernel), List.mem_of_getElem? (i := 472) (by decide +kernel), List.mem_of_getElem? (i := 473) (by decide +kernel)⟩
theorem lw_p34 : lw_okq (⟨"PatchedMachine$Checker", "needNoWayOut", "(I)V"⟩, 3) := ⟨⟨by decide +kernel, by decide +kernel⟩, List.mem_of_getElem? (i := 144) (by decide +kernel), List.mem_of_getElem? (i := 476) (by decide +kernel), List.mem_of_getElem? (i := 477) (by decide +kernel)⟩
theorem lw_p35 : lw_okq (⟨"PatchedMachine$Program", "restrict", "(LPatchedMachine$Program;)V"⟩, 5) := ⟨⟨by decide +kernel, by decide +kernel⟩, List.mem_of_getElem? (i := 23) (by decide +kernel), List.mem_of_getElem? (i := 480) (by decide +kernel), List.mem_of_getElem? (i := 481) (by decide +kernel)⟩
theorem lw_p36 : lw_okq (⟨"PatchedMachine$Program", "methodsCalledOtherwise", "(LPatchedMachine$Program;)I"⟩, 5) := ⟨⟨by decide +kernel, by decide +kernel⟩, List.mem_of_getElem? (i := 23) (by decide +kernel), List.mem_of_getElem? (i := 484) (by decide +kernel), List.mem_of_getElem? (i := 485) (by decide +kernel)⟩
theorem lw_p37 : lw_okq (⟨"PatchedMachine$Routine", "isCalledLike", "(LPatchedMachine$Routine;)Z"⟩, 7) := ⟨⟨by decide +kernel, by decide +kernel⟩, List.mem_of_getElem? (i := 57) (by decide +kernel), List.mem_of_getElem? (i := 488) (by decide +kernel), List.mem_of_getElem? (i := 489) (by decide +kernel)⟩
theorem lw_p38 : lw_okq (⟨"PatchedMachine$Routine", "usesOneOfClasses", "(I)Z"⟩, 7) := ⟨⟨by decide +kernel, by decide +kernel⟩, List.mem_of_getElem? (i := 57) (by decide +kernel), List.mem_of_getElem? (i := 492) (by decide +kernel), List.mem_of_getElem? (i := 493) (by decide +kernel)⟩
theorem lw_p39 : lw_okq (⟨"PatchedMachine$Routine", "callsOneOfMethods", "(I)Z"⟩, 7) := ⟨⟨by decide +kernel, by decide +kernel⟩, List.mem_of_getElem? (i := 57) (by decide +kernel), List.mem_of_getElem? (i := 496) (by decide +kernel), List.mem_of_getElem? (i := 497) (by decide +kernel)⟩
theorem lw_p40 : lw_okq (⟨"PatchedMachine$PatchLine", "add", "(LPatchedMachine$Program;)V"⟩, 3) := ⟨⟨by decide +kernel, by decide +kernel⟩, List.mem_of_getElem? (i := 124) (by decide +kernel), List.mem_of_getElem? (i := 500) (by decide +kernel), List.mem_of_getElem? (i := 501) (by decide +kernel)⟩
theorem lw_p41 : lw_okq (⟨"PatchedMachine", "applyWhatCan", "()V"⟩, 6) := ⟨⟨by decide +kernel, by decide +kernel⟩, List.mem_of_getElem? (i := 15) (by decide +kernel), List.mem_of_getElem? (i := 507) (by decide +kernel), List.mem_of_getElem? (i := 508) (by decide +kernel)⟩
theorem lw_p42 : lw_okq (⟨"PatchedMachine$PatchLine", "firstWaiting", "()LPatchedMachine$Program;"⟩, 3) := ⟨⟨by decide +kernel, by decide +kernel⟩, List.mem_of_getElem? (i := 124) (by decide +kernel), List.mem_of_getElem? (i := 511) (by decide +kernel), List.mem_of_getElem? (i := 512) (by decide +kernel)⟩
theorem lw_p43 : lw_okq (⟨"PatchedMachine$Runner", "hasFrameOfOneOf", "(I)Z"⟩, 6) := ⟨⟨by decide +kernel, by decide +kernel⟩, List.mem_of_getElem? (i := 160) (by decide +kernel), List.mem_of_getElem? (i := 515) (by decide +kernel), List.mem_of_getElem? (i := 516) (by decide +kernel)⟩
theorem lw_p44 : lw_okq (⟨"PatchedMachine$PatchLine", "present", "()LPatchedMachine$Program;"⟩, 3) := ⟨⟨by decide +kernel, by decide +kernel⟩, List.mem_of_getElem? (i := 124) (by decide +kernel), List.mem_of_getElem? (i := 519) (by decide +kernel), List.mem_of_getElem? (i := 520) (by decide +kernel)⟩
theorem lw_p45 : lw_okq (⟨"PatchedMachine$Runner", "collect", "(LPatchedMachine$Program;)V"⟩, 6) := ⟨⟨by decide +kernel, by decide +kernel⟩, List.mem_of_getElem? (i := 160) (by decide +kernel), List.mem_of_getElem? (i := 523) (by decide +kernel), List.mem_of_getElem? (i := 524) (by decide +kernel)⟩
theorem lw_p46 : lw_okq (⟨"PatchedMachine$Heap", "beginCollection", "()V"⟩, 7) := ⟨⟨by decide +kernel, by decide +kernel⟩, List.mem_of_getElem? (i := 168) (by decide +kernel), List.mem_of_getElem? (i := 527) (by decide +kernel), List.mem_of_getElem? (i := 528) (by decide +kernel)⟩
theorem lw_p47 : lw_okq (⟨"PatchedMachine$Runner", "reachFrom", "(LPatchedMachine$Frame;LPatchedMachine$Routine;)V"⟩, 6) := ⟨⟨by decide +kernel, by decide +kernel⟩, List.mem_of_getElem? (i := 160) (by decide +kernel), List.mem_of_getElem? (i := 531) (by decide +kernel), List.mem_of_getElem? (i := 532) (by decide +kernel)⟩
def lw_privs_3 : List (MethodName × Nat) := [(⟨"PatchedMachine$Routine", "isDefined", "()Z"⟩, 7), (⟨"PatchedMachine$Checker", "takeTwoPutInt", "(I)V"⟩, 3), (⟨"PatchedMachine$Checker", "needNoWayOut", "(I)V"⟩, 3), (⟨"PatchedMachine$Program", "restrict", "(LPatchedMachine$Program;)V"⟩, 5), (⟨"PatchedMachine$Program", "methodsCalledOtherwise", "(LPatchedMachine$Program;)I"⟩, 5), (⟨"PatchedMachine$Routine", "isCalledLike", "(LPatchedMachine$Routine;)Z"⟩, 7), (⟨"PatchedMachine$Routine", "usesOneOfClasses", "(I)Z"⟩, 7), (⟨"PatchedMachine$Routine", "callsOneOfMethods", "(I)Z"⟩, 7), (⟨"PatchedMachine$PatchLine", "add", "(LPatchedMachine$Program;)V"⟩, 3), (⟨"PatchedMachine", "applyWhatCan", "()V"⟩, 6), (⟨"PatchedMachine$PatchLine", "firstWaiting", "()LPatchedMachine$Program;"⟩, 3), (⟨"PatchedMachine$Runner", "hasFrameOfOneOf", "(I)Z"⟩, 6), (⟨"PatchedMachine$PatchLine", "present", "()LPatchedMachine$Program;"⟩, 3), (⟨"PatchedMachine$Runner", "collect", "(LPatchedMachine$Program;)V"⟩, 6), (⟨"PatchedMachine$Heap", "beginCollection", "()V"⟩, 7), (⟨"PatchedMachine$Runner", "reachFrom", "(LPatchedMachine$Frame;LPatchedMachine$Routine;)V"⟩, 6)]
theorem lw_r3 : ∀ q ∈ lw_privs_3, lw_okq q := List.forall_mem_cons.mpr ⟨lw_p32, List.forall_mem_cons.mpr ⟨lw_p33, List.forall_mem_cons.mpr ⟨lw_p34, List.forall_mem_cons.mpr ⟨lw_p35, List.forall_mem_cons.mpr ⟨lw_p36, List.forall_mem_cons.mpr ⟨lw_p37, List.forall_mem_cons.mpr ⟨lw_p38, List.forall_mem_cons.mpr ⟨lw_p39, List.forall_mem_cons.mpr ⟨lw_p40, List.forall_mem_cons.mpr ⟨lw_p41, List.forall_mem_cons.mpr ⟨lw_p42, List.forall_mem_cons.mpr ⟨lw_p43, List.forall_mem_cons.mpr ⟨lw_p44, List.forall_mem_cons.mpr ⟨lw_p45, List.forall_mem_cons.mpr ⟨lw_p46, List.forall_mem_cons.mpr ⟨lw_p47, fun _ h => absurd h List.not_mem_nil⟩⟩⟩⟩⟩⟩⟩⟩⟩⟩⟩⟩⟩⟩⟩⟩
theorem lw_p48 : lw_okq (⟨"PatchedMachine$Heap", "reach", "(II)V"⟩, 7) := ⟨⟨by decide +kernel, by decide +kernel⟩, List.mem_of_getElem? (i := 168) (by decide +kernel), List.mem_of_getElem? (i := 535) (by decide +kernel), List.mem_of_getElem? (i := 536) (by decide +kernel)⟩
theorem lw_p49 : lw_okq (⟨"PatchedMachine$Heap", "reachOverFields", "(LPatchedMachine$Program;)V"⟩, 7) := ⟨⟨by decide +kernel, by decide +kernel⟩, List.mem_of_getElem? (i := 168) (by decide +kernel), List.mem_of_getElem? (i := 539) (by decide +kernel), List.mem_of_getElem? (i := 540) (by decide +kernel)⟩
theorem lw_p50 : lw_okq (⟨"PatchedMachine$Heap", "takeAwayTheRest", "()V"⟩, 7) := ⟨⟨by decide +kernel, by decide +kernel⟩, List.mem_of_getElem? (i := 168) (by decide +kernel), List.mem_of_getElem? (i := 544) (by decide +kernel), List.mem_of_getElem? (i := 545) (by decide +kernel)⟩
theorem lw_p51 : lw_okq (⟨"PatchedMachine$Heap", "moveObjects", "(LPatchedMachine$Program;LPatchedMachine$Program;)I"⟩, 7) := ⟨⟨by decide +kernel, by decide +kernel⟩, List.mem_of_getElem? (i := 168) (by decide +kernel), List.mem_of_getElem? (i := 548) (by decide +kernel), List.mem_of_getElem? (i := 549) (by decide +kernel)⟩
theorem lw_p52 : lw_okq (⟨"PatchedMachine$Heap", "moveValues", "([ILPatchedMachine$Layout;LPatchedMachine$Layout;)V"⟩, 7) := ⟨⟨by decide +kernel, by decide +kernel⟩, List.mem_of_getElem? (i := 168) (by decide +kernel), List.mem_of_getElem? (i := 553) (by decide +kernel), List.mem_of_getElem? (i := 554) (by decide +kernel)⟩
theorem lw_p53 : lw_okq (⟨"PatchedMachine$PatchLine", "advance", "()V"⟩, 3) := ⟨⟨by decide +kernel, by decide +kernel⟩, List.mem_of_getElem? (i := 124) (by decide +kernel), List.mem_of_getElem? (i := 562) (by decide +kernel), List.mem_of_getElem? (i := 563) (by decide +kernel)⟩
theorem lw_p54 : lw_okq (⟨"PatchedMachine$Runner", "goesOn", "()Z"⟩, 6) := ⟨⟨by decide +kernel, by decide +kernel⟩, List.mem_of_getElem? (i := 160) (by decide +kernel), List.mem_of_getElem? (i := 586) (by decide +kernel), List.mem_of_getElem? (i := 587) (by decide +kernel)⟩
theorem lw_p55 : lw_okq (⟨"PatchedMachine$Runner", "begin", "(I)V"⟩, 6) := ⟨⟨by decide +kernel, by decide +kernel⟩, List.mem_of_getElem? (i := 160) (by decide +kernel), List.mem_of_getElem? (i := 591) (by decide +kernel), List.mem_of_getElem? (i := 592) (by decide +kernel)⟩
theorem lw_p56 : lw_okq (⟨"PatchedMachine$Frame", "begin", "(I)V"⟩, 6) := ⟨⟨by decide +kernel, by decide +kernel⟩, List.mem_of_getElem? (i := 213) (by decide +kernel), List.mem_of_getElem? (i := 595) (by decide +kernel), List.mem_of_getElem? (i := 596) (by decide +kernel)⟩
theorem lw_p57 : lw_okq (⟨"PatchedMachine$Runner", "step", "(LPatchedMachine$Program;)V"⟩, 6) := ⟨⟨by decide +kernel, by decide +kernel⟩, List.mem_of_getElem? (i := 160) (by decide +kernel), List.mem_of_getElem? (i := 603) (by decide +kernel), List.mem_of_getElem? (i := 604) (by decide +kernel)⟩
theorem lw_p58 : lw_okq (⟨"PatchedMachine$Runner", "stepOnObjects", "(LPatchedMachine$Frame;IIILPatchedMachine$Program;)V"⟩, 6) := ⟨⟨by decide +kernel, by decide +kernel⟩, List.mem_of_getElem? (i := 160) (by decide +kernel), List.mem_of_getElem? (i := 608) (by decide +kernel), List.mem_of_getElem? (i := 609) (by decide +kernel)⟩
theorem lw_p59 : lw_okq (⟨"PatchedMachine$Runner", "makeObject", "(LPatchedMachine$Frame;ILPatchedMachine$Program;)V"⟩, 6) := ⟨⟨by decide +kernel, by decide +kernel⟩, List.mem_of_getElem? (i := 160) (by decide +kernel), List.mem_of_getElem? (i := 612) (by decide +kernel), List.mem_of_getElem? (i := 613) (by decide +kernel)⟩
theorem lw_p60 : lw_okq (⟨"PatchedMachine$Heap", "isFull", "()Z"⟩, 7) := ⟨⟨by decide +kernel, by decide +kernel⟩, List.mem_of_getElem? (i := 168) (by decide +kernel), List.mem_of_getElem? (i := 616) (by decide +kernel), List.mem_of_getElem? (i := 617) (by decide +kernel)⟩
theorem lw_p61 : lw_okq (⟨"PatchedMachine$Runner", "end", "(I)V"⟩, 6) := ⟨⟨by decide +kernel, by decide +kernel⟩, List.mem_of_getElem? (i := 160) (by decide +kernel), List.mem_of_getElem? (i := 621) (by decide +kernel), List.mem_of_getElem? (i := 622) (by decide +kernel)⟩
theorem lw_p62 : lw_okq (⟨"PatchedMachine$Heap", "make", "(I)I"⟩, 7) := ⟨⟨by decide +kernel, by decide +kernel⟩, List.mem_of_getElem? (i := 168) (by decide +kernel), List.mem_of_getElem? (i := 625) (by decide +kernel), List.mem_of_getElem? (i := 626) (by decide +kernel)⟩
theorem lw_p63 : lw_okq (⟨"PatchedMachine$Frame", "put", "(II)V"⟩, 6) := ⟨⟨by decide +kernel, by decide +kernel⟩, List.mem_of_getElem? (i := 213) (by decide +kernel), List.mem_of_getElem? (i := 629) (by decide +kernel), List.mem_of_getElem? (i := 630) (by decide +kernel)⟩
def lw_privs_4 : List (MethodName × Nat) := [(⟨"PatchedMachine$Heap", "reach", "(II)V"⟩, 7), (⟨"PatchedMachine$Heap", "reachOverFields", "(LPatchedMachine$Program;)V"⟩, 7), (⟨"PatchedMachine$Heap", "takeAwayTheRest", "()V"⟩, 7), (⟨"PatchedMachine$Heap", "moveObjects", "(LPatchedMachine$Program;LPatchedMachine$Program;)I"⟩, 7), (⟨"PatchedMachine$Heap", "moveValues", "([ILPatchedMachine$Layout;LPatchedMachine$Layout;)V"⟩, 7), (⟨"PatchedMachine$PatchLine", "advance", "()V"⟩, 3), (⟨"PatchedMachine$Runner", "goesOn", "()Z"⟩, 6), (⟨"PatchedMachine$Runner", "begin", "(I)V"⟩, 6), (⟨"PatchedMachine$Frame", "begin", "(I)V"⟩, 6), (⟨"PatchedMachine$Runner", "step", "(LPatchedMachine$Program;)V"⟩, 6), (⟨"PatchedMachine$Runner", "stepOnObjects", "(LPatchedMachine$Frame;IIILPatchedMachine$Program;)V"⟩, 6), (⟨"PatchedMachine$Runner", "makeObject", "(LPatchedMachine$Frame;ILPatchedMachine$Program;)V"⟩, 6), (⟨"PatchedMachine$Heap", "isFull", "()Z"⟩, 7), (⟨"PatchedMachine$Runner", "end", "(I)V"⟩, 6), (⟨"PatchedMachine$Heap", "make", "(I)I"⟩, 7), (⟨"PatchedMachine$Frame", "put", "(II)V"⟩, 6)]
theorem lw_r4 : ∀ q ∈ lw_privs_4, lw_okq q := List.forall_mem_cons.mpr ⟨lw_p48, List.forall_mem_cons.mpr ⟨lw_p49, List.forall_mem_cons.mpr ⟨lw_p50, List.forall_mem_cons.mpr ⟨lw_p51, List.forall_mem_cons.mpr ⟨lw_p52, List.forall_mem_cons.mpr ⟨lw_p53, List.forall_mem_cons.mpr ⟨lw_p54, List.forall_mem_cons.mpr ⟨lw_p55, List.forall_mem_cons.mpr ⟨lw_p56, List.forall_mem_cons.mpr ⟨lw_p57, List.forall_mem_cons.mpr ⟨lw_p58, List.forall_mem_cons.mpr ⟨lw_p59, List.forall_mem_cons.mpr ⟨lw_p60, List.forall_mem_cons.mpr ⟨lw_p61, List.forall_mem_cons.mpr ⟨lw_p62, List.forall_mem_cons.mpr ⟨lw_p63, fun _ h => absurd h List.not_mem_nil⟩⟩⟩⟩⟩⟩⟩⟩⟩⟩⟩⟩⟩⟩⟩⟩
theorem lw_p64 : lw_okq (⟨"PatchedMachine$Runner", "readField", "(LPatchedMachine$Frame;LPatchedMachine$Layout;I)V"⟩, 6) := ⟨⟨by decide +kernel, by decide +kernel⟩, List.mem_of_getElem? (i := 160) (by decide +kernel), List.mem_of_getElem? (i := 633) (by decide +kernel), List.mem_of_getElem? (i := 634) (by decide +kernel)⟩
theorem lw_p65 : lw_okq (⟨"PatchedMachine$Frame", "take", "()I"⟩, 6) := ⟨⟨by decide +kernel, by decide +kernel⟩, List.mem_of_getElem? (i := 213) (by decide +kernel), List.mem_of_getElem? (i := 637) (by decide +kernel), List.mem_of_getElem? (i := 638) (by decide +kernel)⟩
theorem lw_p66 : lw_okq (⟨"PatchedMachine$Heap", "valueAt", "(II)I"⟩, 7) := ⟨⟨by decide +kernel, by decide +kernel⟩, List.mem_of_getElem? (i := 168) (by decide +kernel), List.mem_of_getElem? (i := 642) (by decide +kernel), List.mem_of_getElem? (i := 643) (by decide +kernel)⟩
theorem lw_p67 : lw_okq (⟨"PatchedMachine$Heap", "isObject", "(I)Z"⟩, 7) := ⟨⟨by decide +kernel, by decide +kernel⟩, List.mem_of_getElem? (i := 168) (by decide +kernel), List.mem_of_getElem? (i := 646) (by decide +kernel), List.mem_of_getElem? (i := 647) (by decide +kernel)⟩
theorem lw_p68 : lw_okq (⟨"PatchedMachine$Runner", "writeField", "(LPatchedMachine$Frame;LPatchedMachine$Layout;I)V"⟩, 6) := ⟨⟨by decide +kernel, by decide +kernel⟩, List.mem_of_getElem? (i := 160) (by decide +kernel), List.mem_of_getElem? (i := 654) (by decide +kernel), List.mem_of_getElem? (i := 655) (by decide +kernel)⟩
theorem lw_p69 : lw_okq (⟨"PatchedMachine$Heap", "setValue", "(III)V"⟩, 7) := ⟨⟨by decide +kernel, by decide +kernel⟩, List.mem_of_getElem? (i := 168) (by decide +kernel), List.mem_of_getElem? (i := 658) (by decide +kernel), List.mem_of_getElem? (i := 659) (by decide +kernel)⟩
theorem lw_p70 : lw_okq (⟨"PatchedMachine$Runner", "stepElsewhere", "(LPatchedMachine$Frame;IILPatchedMachine$Program;)V"⟩, 6) := ⟨⟨by decide +kernel, by decide +kernel⟩, List.mem_of_getElem? (i := 160) (by decide +kernel), List.mem_of_getElem? (i := 662) (by decide +kernel), List.mem_of_getElem? (i := 663) (by decide +kernel)⟩
theorem lw_p71 : lw_okq (⟨"PatchedMachine$Runner", "enter", "(LPatchedMachine$Frame;ILPatchedMachine$Routine;)V"⟩, 6) := ⟨⟨by decide +kernel, by decide +kernel⟩, List.mem_of_getElem? (i := 160) (by decide +kernel), List.mem_of_getElem? (i := 666) (by decide +kernel), List.mem_of_getElem? (i := 667) (by decide +kernel)⟩
theorem lw_p72 : lw_okq (⟨"PatchedMachine$Runner", "leave", "(LPatchedMachine$Frame;LPatchedMachine$Routine;)V"⟩, 6) := ⟨⟨by decide +kernel, by decide +kernel⟩, List.mem_of_getElem? (i := 160) (by decide +kernel), List.mem_of_getElem? (i := 670) (by decide +kernel), List.mem_of_getElem? (i := 671) (by decide +kernel)⟩
theorem lw_p73 : lw_okq (⟨"PatchedMachine$Runner", "stepOnValues", "(LPatchedMachine$Frame;IILPatchedMachine$Routine;)V"⟩, 6) := ⟨⟨by decide +kernel, by decide +kernel⟩, List.mem_of_getElem? (i := 160) (by decide +kernel), List.mem_of_getElem? (i := 674) (by decide +kernel), List.mem_of_getElem? (i := 675) (by decide +kernel)⟩
theorem lw_p74 : lw_okq (⟨"PatchedMachine$Printer", "print", "(I)V"⟩, 2) := ⟨⟨by decide +kernel, by decide +kernel⟩, List.mem_of_getElem? (i := 200) (by decide +kernel), List.mem_of_getElem? (i := 678) (by decide +kernel), List.mem_of_getElem? (i := 679) (by decide +kernel)⟩
theorem lw_p75 : lw_okq (⟨"PatchedMachine$Printer", "latestBut", "(I)I"⟩, 2) := ⟨⟨by decide +kernel, by decide +kernel⟩, List.mem_of_getElem? (i := 200) (by decide +kernel), List.mem_of_getElem? (i := 712) (by decide +kernel), List.mem_of_getElem? (i := 713) (by decide +kernel)⟩
theorem lw_p76 : lw_okq (⟨"PatchedMachineModel", "find", "(III)I"⟩, 34) := ⟨⟨by decide +kernel, by decide +kernel⟩, List.mem_of_getElem? (i := 724) (by decide +kernel), List.mem_of_getElem? (i := 844) (by decide +kernel), List.mem_of_getElem? (i := 845) (by decide +kernel)⟩
theorem lw_p77 : lw_okq (⟨"PatchedMachineModel", "typeOf", "(III)I"⟩, 34) := ⟨⟨by decide +kernel, by decide +kernel⟩, List.mem_of_getElem? (i := 724) (by decide +kernel), List.mem_of_getElem? (i := 848) (by decide +kernel), List.mem_of_getElem? (i := 849) (by decide +kernel)⟩
theorem lw_p78 : lw_okq (⟨"PatchedMachineModel", "renew", "()V"⟩, 34) := ⟨⟨by decide +kernel, by decide +kernel⟩, List.mem_of_getElem? (i := 724) (by decide +kernel), List.mem_of_getElem? (i := 867) (by decide +kernel), List.mem_of_getElem? (i := 868) (by decide +kernel)⟩
theorem lw_p79 : lw_okq (⟨"PatchedMachineModel", "copy", "(II)V"⟩, 34) := ⟨⟨by decide +kernel, by decide +kernel⟩, List.mem_of_getElem? (i := 724) (by decide +kernel), List.mem_of_getElem? (i := 871) (by decide +kernel), List.mem_of_getElem? (i := 872) (by decide +kernel)⟩
def lw_privs_5 : List (MethodName × Nat) := [(⟨"PatchedMachine$Runner", "readField", "(LPatchedMachine$Frame;LPatchedMachine$Layout;I)V"⟩, 6), (⟨"PatchedMachine$Frame", "take", "()I"⟩, 6), (⟨"PatchedMachine$Heap", "valueAt", "(II)I"⟩, 7), (⟨"PatchedMachine$Heap", "isObject", "(I)Z"⟩, 7), (⟨"PatchedMachine$Runner", "writeField", "(LPatchedMachine$Frame;LPatchedMachine$Layout;I)V"⟩, 6), (⟨"PatchedMachine$Heap", "setValue", "(III)V"⟩, 7), (⟨"PatchedMachine$Runner", "stepElsewhere", "(LPatchedMachine$Frame;IILPatchedMachine$Program;)V"⟩, 6), (⟨"PatchedMachine$Runner", "enter", "(LPatchedMachine$Frame;ILPatchedMachine$Routine;)V"⟩, 6), (⟨"PatchedMachine$Runner", "leave", "(LPatchedMachine$Frame;LPatchedMachine$Routine;)V"⟩, 6), (⟨"PatchedMachine$Runner", "stepOnValues", "(LPatchedMachine$Frame;IILPatchedMachine$Routine;)V"⟩, 6), (⟨"PatchedMachine$Printer", "print", "(I)V"⟩, 2), (⟨"PatchedMachine$Printer", "latestBut", "(I)I"⟩, 2), (⟨"PatchedMachineModel", "find", "(III)I"⟩, 34), (⟨"PatchedMachineModel", "typeOf", "(III)I"⟩, 34), (⟨"PatchedMachineModel", "renew", "()V"⟩, 34), (⟨"PatchedMachineModel", "copy", "(II)V"⟩, 34)]
theorem lw_r5 : ∀ q ∈ lw_privs_5, lw_okq q := List.forall_mem_cons.mpr ⟨lw_p64, List.forall_mem_cons.mpr ⟨lw_p65, List.forall_mem_cons.mpr ⟨lw_p66, List.forall_mem_cons.mpr ⟨lw_p67, List.forall_mem_cons.mpr ⟨lw_p68, List.forall_mem_cons.mpr ⟨lw_p69, List.forall_mem_cons.mpr ⟨lw_p70, List.forall_mem_cons.mpr ⟨lw_p71, List.forall_mem_cons.mpr ⟨lw_p72, List.forall_mem_cons.mpr ⟨lw_p73, List.forall_mem_cons.mpr ⟨lw_p74, List.forall_mem_cons.mpr ⟨lw_p75, List.forall_mem_cons.mpr ⟨lw_p76, List.forall_mem_cons.mpr ⟨lw_p77, List.forall_mem_cons.mpr ⟨lw_p78, List.forall_mem_cons.mpr ⟨lw_p79, fun _ h => absurd h List.not_mem_nil⟩⟩⟩⟩⟩⟩⟩⟩⟩⟩⟩⟩⟩⟩⟩⟩
theorem lw_p80 : lw_okq (⟨"PatchedMachineModel", "wrong", "()I"⟩, 34) := ⟨⟨by decide +kernel, by decide +kernel⟩, List.mem_of_getElem? (i := 724) (by decide +kernel), List.mem_of_getElem? (i := 879) (by decide +kernel), List.mem_of_getElem? (i := 880) (by decide +kernel)⟩
theorem lw_p81 : lw_okq (⟨"PatchedMachineModel", "bad", "(II)Z"⟩, 34) := ⟨⟨by decide +kernel, by decide +kernel⟩, List.mem_of_getElem? (i := 724) (by decide +kernel), List.mem_of_getElem? (i := 883) (by decide +kernel), List.mem_of_getElem? (i := 884) (by decide +kernel)⟩
theorem lw_p82 : lw_okq (⟨"PatchedMachineModel", "goes", "(II)Z"⟩, 34) := ⟨⟨by decide +kernel, by decide +kernel⟩, List.mem_of_getElem? (i := 724) (by decide +kernel), List.mem_of_getElem? (i := 887) (by decide +kernel), List.mem_of_getElem? (i := 888) (by decide +kernel)⟩
theorem lw_p83 : lw_okq (⟨"PatchedMachineModel", "puts", "(I)Z"⟩, 34) := ⟨⟨by decide +kernel, by decide +kernel⟩, List.mem_of_getElem? (i := 724) (by decide +kernel), List.mem_of_getElem? (i := 891) (by decide +kernel), List.mem_of_getElem? (i := 892) (by decide +kernel)⟩
theorem lw_p84 : lw_okq (⟨"PatchedMachineModel", "local", "(II)I"⟩, 34) := ⟨⟨by decide +kernel, by decide +kernel⟩, List.mem_of_getElem? (i := 724) (by decide +kernel), List.mem_of_getElem? (i := 895) (by decide +kernel), List.mem_of_getElem? (i := 896) (by decide +kernel)⟩
theorem lw_p85 : lw_okq (⟨"PatchedMachineModel", "takes", "(I)Z"⟩, 34) := ⟨⟨by decide +kernel, by decide +kernel⟩, List.mem_of_getElem? (i := 724) (by decide +kernel), List.mem_of_getElem? (i := 899) (by decide +kernel), List.mem_of_getElem? (i := 900) (by decide +kernel)⟩
theorem lw_p86 : lw_okq (⟨"PatchedMachineModel", "member", "(III)Z"⟩, 34) := ⟨⟨by decide +kernel, by decide +kernel⟩, List.mem_of_getElem? (i := 724) (by decide +kernel), List.mem_of_getElem? (i := 903) (by decide +kernel), List.mem_of_getElem? (i := 904) (by decide +kernel)⟩
theorem lw_p87 : lw_okq (⟨"PatchedMachineModel", "passes", "(I)Z"⟩, 34) := ⟨⟨by decide +kernel, by decide +kernel⟩, List.mem_of_getElem? (i := 724) (by decide +kernel), List.mem_of_getElem? (i := 907) (by decide +kernel), List.mem_of_getElem? (i := 908) (by decide +kernel)⟩
theorem lw_p88 : lw_okq (⟨"PatchedMachineModel", "aimedAt", "(II)Z"⟩, 34) := ⟨⟨by decide +kernel, by decide +kernel⟩, List.mem_of_getElem? (i := 724) (by decide +kernel), List.mem_of_getElem? (i := 911) (by decide +kernel), List.mem_of_getElem? (i := 912) (by decide +kernel)⟩
theorem lw_p89 : lw_okq (⟨"PatchedMachineModel", "restrictedBy", "()I"⟩, 34) := ⟨⟨by decide +kernel, by decide +kernel⟩, List.mem_of_getElem? (i := 724) (by decide +kernel), List.mem_of_getElem? (i := 915) (by decide +kernel), List.mem_of_getElem? (i := 916) (by decide +kernel)⟩
theorem lw_p90 : lw_okq (⟨"PatchedMachineModel", "otherHead", "(I)Z"⟩, 34) := ⟨⟨by decide +kernel, by decide +kernel⟩, List.mem_of_getElem? (i := 724) (by decide +kernel), List.mem_of_getElem? (i := 919) (by decide +kernel), List.mem_of_getElem? (i := 920) (by decide +kernel)⟩
theorem lw_p91 : lw_okq (⟨"PatchedMachineModel", "settle", "()V"⟩, 34) := ⟨⟨by decide +kernel, by decide +kernel⟩, List.mem_of_getElem? (i := 724) (by decide +kernel), List.mem_of_getElem? (i := 923) (by decide +kernel), List.mem_of_getElem? (i := 924) (by decide +kernel)⟩
theorem lw_p92 : lw_okq (⟨"PatchedMachineModel", "free", "()Z"⟩, 34) := ⟨⟨by decide +kernel, by decide +kernel⟩, List.mem_of_getElem? (i := 724) (by decide +kernel), List.mem_of_getElem? (i := 927) (by decide +kernel), List.mem_of_getElem? (i := 928) (by decide +kernel)⟩
theorem lw_p93 : lw_okq (⟨"PatchedMachineModel", "apply", "()V"⟩, 34) := ⟨⟨by decide +kernel, by decide +kernel⟩, List.mem_of_getElem? (i := 724) (by decide +kernel), List.mem_of_getElem? (i := 931) (by decide +kernel), List.mem_of_getElem? (i := 932) (by decide +kernel)⟩
theorem lw_p94 : lw_okq (⟨"PatchedMachineModel", "collect", "()V"⟩, 34) := ⟨⟨by decide +kernel, by decide +kernel⟩, List.mem_of_getElem? (i := 724) (by decide +kernel), List.mem_of_getElem? (i := 935) (by decide +kernel), List.mem_of_getElem? (i := 936) (by decide +kernel)⟩
theorem lw_p95 : lw_okq (⟨"PatchedMachineModel", "transform", "(II)V"⟩, 34) := ⟨⟨by decide +kernel, by decide +kernel⟩, List.mem_of_getElem? (i := 724) (by decide +kernel), List.mem_of_getElem? (i := 939) (by decide +kernel), List.mem_of_getElem? (i := 940) (by decide +kernel)⟩
def lw_privs_6 : List (MethodName × Nat) := [(⟨"PatchedMachineModel", "wrong", "()I"⟩, 34), (⟨"PatchedMachineModel", "bad", "(II)Z"⟩, 34), (⟨"PatchedMachineModel", "goes", "(II)Z"⟩, 34), (⟨"PatchedMachineModel", "puts", "(I)Z"⟩, 34), (⟨"PatchedMachineModel", "local", "(II)I"⟩, 34), (⟨"PatchedMachineModel", "takes", "(I)Z"⟩, 34), (⟨"PatchedMachineModel", "member", "(III)Z"⟩, 34), (⟨"PatchedMachineModel", "passes", "(I)Z"⟩, 34), (⟨"PatchedMachineModel", "aimedAt", "(II)Z"⟩, 34), (⟨"PatchedMachineModel", "restrictedBy", "()I"⟩, 34), (⟨"PatchedMachineModel", "otherHead", "(I)Z"⟩, 34), (⟨"PatchedMachineModel", "settle", "()V"⟩, 34), (⟨"PatchedMachineModel", "free", "()Z"⟩, 34), (⟨"PatchedMachineModel", "apply", "()V"⟩, 34), (⟨"PatchedMachineModel", "collect", "()V"⟩, 34), (⟨"PatchedMachineModel", "transform", "(II)V"⟩, 34)]
theorem lw_r6 : ∀ q ∈ lw_privs_6, lw_okq q := List.forall_mem_cons.mpr ⟨lw_p80, List.forall_mem_cons.mpr ⟨lw_p81, List.forall_mem_cons.mpr ⟨lw_p82, List.forall_mem_cons.mpr ⟨lw_p83, List.forall_mem_cons.mpr ⟨lw_p84, List.forall_mem_cons.mpr ⟨lw_p85, List.forall_mem_cons.mpr ⟨lw_p86, List.forall_mem_cons.mpr ⟨lw_p87, List.forall_mem_cons.mpr ⟨lw_p88, List.forall_mem_cons.mpr ⟨lw_p89, List.forall_mem_cons.mpr ⟨lw_p90, List.forall_mem_cons.mpr ⟨lw_p91, List.forall_mem_cons.mpr ⟨lw_p92, List.forall_mem_cons.mpr ⟨lw_p93, List.forall_mem_cons.mpr ⟨lw_p94, List.forall_mem_cons.mpr ⟨lw_p95, fun _ h => absurd h List.not_mem_nil⟩⟩⟩⟩⟩⟩⟩⟩⟩⟩⟩⟩⟩⟩⟩⟩
theorem lw_p96 : lw_okq (⟨"PatchedMachineModel", "begin", "(II)V"⟩, 34) := ⟨⟨by decide +kernel, by decide +kernel⟩, List.mem_of_getElem? (i := 724) (by decide +kernel), List.mem_of_getElem? (i := 967) (by decide +kernel), List.mem_of_getElem? (i := 968) (by decide +kernel)⟩
theorem lw_p97 : lw_okq (⟨"PatchedMachineModel", "step", "()V"⟩, 34) := ⟨⟨by decide +kernel, by decide +kernel⟩, List.mem_of_getElem? (i := 724) (by decide +kernel), List.mem_of_getElem? (i := 975) (by decide +kernel), List.mem_of_getElem? (i := 976) (by decide +kernel)⟩
theorem lw_p98 : lw_okq (⟨"PatchedMachineModel", "put", "(II)V"⟩, 34) := ⟨⟨by decide +kernel, by decide +kernel⟩, List.mem_of_getElem? (i := 724) (by decide +kernel), List.mem_of_getElem? (i := 979) (by decide +kernel), List.mem_of_getElem? (i := 980) (by decide +kernel)⟩
theorem lw_p99 : lw_okq (⟨"PatchedMachineModel", "take", "()I"⟩, 34) := ⟨⟨by decide +kernel, by decide +kernel⟩, List.mem_of_getElem? (i := 724) (by decide +kernel), List.mem_of_getElem? (i := 983) (by decide +kernel), List.mem_of_getElem? (i := 984) (by decide +kernel)⟩
theorem lw_p100 : lw_okq (⟨"PatchedMachineModel", "call", "(I)V"⟩, 34) := ⟨⟨by decide +kernel, by decide +kernel⟩, List.mem_of_getElem? (i := 724) (by decide +kernel), List.mem_of_getElem? (i := 987) (by decide +kernel), List.mem_of_getElem? (i := 988) (by decide +kernel)⟩
theorem lw_p101 : lw_okq (⟨"PatchedMachineModel", "leave", "(I)V"⟩, 34) := ⟨⟨by decide +kernel, by decide +kernel⟩, List.mem_of_getElem? (i := 724) (by decide +kernel), List.mem_of_getElem? (i := 991) (by decide +kernel), List.mem_of_getElem? (i := 992) (by decide +kernel)⟩
theorem lw_p102 : lw_okq (⟨"PatchedMachineModel", "object", "(III)V"⟩, 34) := ⟨⟨by decide +kernel, by decide +kernel⟩, List.mem_of_getElem? (i := 724) (by decide +kernel), List.mem_of_getElem? (i := 995) (by decide +kernel), List.mem_of_getElem? (i := 996) (by decide +kernel)⟩
theorem lw_p103 : lw_okq (⟨"PatchedMachineModel", "born", "(I)I"⟩, 34) := ⟨⟨by decide +kernel, by decide +kernel⟩, List.mem_of_getElem? (i := 724) (by decide +kernel), List.mem_of_getElem? (i := 999) (by decide +kernel), List.mem_of_getElem? (i := 1000) (by decide +kernel)⟩
def lw_privs_7 : List (MethodName × Nat) := [(⟨"PatchedMachineModel", "begin", "(II)V"⟩, 34), (⟨"PatchedMachineModel", "step", "()V"⟩, 34), (⟨"PatchedMachineModel", "put", "(II)V"⟩, 34), (⟨"PatchedMachineModel", "take", "()I"⟩, 34), (⟨"PatchedMachineModel", "call", "(I)V"⟩, 34), (⟨"PatchedMachineModel", "leave", "(I)V"⟩, 34), (⟨"PatchedMachineModel", "object", "(III)V"⟩, 34), (⟨"PatchedMachineModel", "born", "(I)I"⟩, 34)]
theorem lw_r7 : ∀ q ∈ lw_privs_7, lw_okq q := List.forall_mem_cons.mpr ⟨lw_p96, List.forall_mem_cons.mpr ⟨lw_p97, List.forall_mem_cons.mpr ⟨lw_p98, List.forall_mem_cons.mpr ⟨lw_p99, List.forall_mem_cons.mpr ⟨lw_p100, List.forall_mem_cons.mpr ⟨lw_p101, List.forall_mem_cons.mpr ⟨lw_p102, List.forall_mem_cons.mpr ⟨lw_p103, fun _ h => absurd h List.not_mem_nil⟩⟩⟩⟩⟩⟩⟩⟩
def lw_privs : List (MethodName × Nat) := lw_privs_1 ++ (lw_privs_2 ++ (lw_privs_3 ++ (lw_privs_4 ++ (lw_privs_5 ++ (lw_privs_6 ++ (lw_privs_7))))))
def lw_tbl : List Cond := k2_sels lw_privs ++ tables_1
theorem lw_privs_ok : ∀ q ∈ lw_privs, lw_okq q := by
  show ∀ q ∈ lw_privs_1 ++ (lw_privs_2 ++ (lw_privs_3 ++ (lw_privs_4 ++ (lw_privs_5 ++ (lw_privs_6 ++ (lw_privs_7)))))), lw_okq q
  exact List.forall_mem_append.mpr ⟨lw_r1, List.forall_mem_append.mpr ⟨lw_r2, List.forall_mem_append.mpr ⟨lw_r3, List.forall_mem_append.mpr ⟨lw_r4, List.forall_mem_append.mpr ⟨lw_r5, List.forall_mem_append.mpr ⟨lw_r6, lw_r7⟩⟩⟩⟩⟩⟩
end
section
/-! the words that a contract may have, and those that go with the state -/
def am_gt : List Jvm.Cond := lw_tbl.filter goodWord
def am_isN : Jvm.Cond → Bool
  | .fieldLinkNest .. => true
  | .methodLinkNest .. => true
  | .arrayOver (.object _) => true
  | .arrayOver (.array _) => true
  | _ => false
def am_nt : List Jvm.Cond := lw_tbl.filter am_isN
def am_tb : List Jvm.Cond := lw_tbl.filter (fun w => goodWord w || am_isN w)
theorem am_nt_k : ∀ w ∈ am_nt, am_isN w = true := fun w hw => (List.mem_filter.mp hw).2
def am_NW (U : State) : Prop := ∀ w ∈ am_nt, w.before #[] U = true
theorem am_aoA_spec {args : Array Value} {first s : State} {o : Option Outcome} {idx : List Nat} {n : FieldType} (h : (Cond.arrayOver (.array n)).holds args first o s idx = true) :
    ∃ comp c k, s.vm.findClass (FieldType.array n).toString = some comp ∧ (s.vm.classes.findIdx? fun x => match x.kind with | .array component _ => component == comp | _ => false) = some c ∧ s.vm.classes[c]? = some k ∧ k.kind = .array comp (.array n) ∧
      s.vm.findClass ("[" ++ (FieldType.array n).toString) = some c := by
  simp only [Cond.holds, Cond.value, beq_iff_eq] at h
  cases hc : s.vm.findClass (FieldType.array n).toString with
  | none => simp [hc] at h
  | some comp =>
    simp only [hc, Option.bind_some, Option.bind_eq_some_iff, Option.map_eq_some_iff] at h
    obtain ⟨c, hi, k, hk, hb⟩ := h
    obtain ⟨hlt, hp, -⟩ := Array.findIdx?_eq_some_iff_getElem.mp hi
    have hkk : s.vm.classes[c] = k := (Array.getElem?_eq_some_iff.mp hk).2
    rw [hkk] at hp
    cases hkind : k.kind with
    | array component ty =>
      rw [hkind] at hb hp
      simp at hb hp
      exact ⟨comp, c, k, rfl, hi, hk, by rw [hkind, hp, hb.1], hb.2⟩
    | _ => rw [hkind] at hb; simp at hb
theorem am_aoA_moved {t : FieldType} {u U : State} (hvm : u.vm.Alike U.vm) (h : (Cond.arrayOver (.array t)).before #[] u = true) : (Cond.arrayOver (.array t)).before #[] U = true := by
  obtain ⟨comp, c, k, h1, h2, h3, h4, h5⟩ := am_aoA_spec h
  obtain ⟨k', hk', he⟩ := hvm.2.2 _ _ h3
  have hi : (U.vm.classes.findIdx? fun (x : Class) => match x.kind with | .array component _ => component == comp | _ => false) = some c := by
    have e1 := va_idx_bare U.vm comp
    have e2 := va_idx_bare u.vm comp
    first | rw [hvm.bare_eq] at e1 | rw [← hvm.bare_eq] at e1
    exact (e1.symm.trans e2).trans h2
  have hkind : k'.kind = .array comp (.array t) := by rw [he]; exact h4
  have f1 : U.vm.findClass (FieldType.array t).toString = some comp := by rw [hvm.findClass]; exact h1
  have f2 : U.vm.findClass ("[" ++ (FieldType.array t).toString) = some c := by rw [hvm.findClass]; exact h5
  unfold Cond.before Cond.holds
  simp only [Cond.value]
  rw [f1, Option.bind_some]
  refine (congrArg (fun o : Option Nat => (o.bind (fun c => (U.vm.classes[c]?).map fun (k : Class) => match k.kind with | .array _ ty => decide (ty = FieldType.array t) && decide (U.vm.findClass ("[" ++ (FieldType.array t).toString) = some c) | _ => false) == some true)) hi).trans ?_
  simp [hk', hkind, f2]
theorem am_N_warm {s U : State} (hW : s.WarmedH U.vm) {w : Jvm.Cond} (hk : am_isN w = true) (h : w.before #[] s = true) : w.before #[] U = true := by
  cases w with
  | fieldLinkNest a i b n d x => exact va_Nw.warmF hW h
  | methodLinkNest a i x y => exact va_Nw.warmM hW h
  | arrayOver t =>
    cases t with
    | object C => exact va_AO.moved hW.alike h
    | array t => exact am_aoA_moved hW.alike h
    | _ => cases hk
  | _ => cases hk
theorem am_N_same {u U : State} (hv : u.vm = U.vm) {w : Jvm.Cond} (hk : am_isN w = true) (h : w.before #[] u = true) : w.before #[] U = true := by
  cases w with
  | fieldLinkNest a i b n d x => exact va_tabs rfl hv h
  | methodLinkNest a i x y => exact va_tabs rfl hv h
  | arrayOver t =>
    have ha : u.vm.Alike U.vm := by rw [hv]; exact Vm.Alike.refl _
    cases t with
    | object C => exact va_AO.moved ha h
    | array t => exact am_aoA_moved ha h
    | _ => cases hk
  | _ => cases hk
theorem am_N_use {s : State} {args : Array Value} {w : Jvm.Cond} (hk : am_isN w = true) (h : w.before #[] s = true) : w.before args s = true := by
  cases w with
  | fieldLinkNest a i b n d x => exact va_tabs rfl rfl h
  | methodLinkNest a i x y => exact va_tabs rfl rfl h
  | arrayOver t => exact h
  | _ => cases hk
theorem am_N_of {s : State} {args : Array Value} {w : Jvm.Cond} (hk : am_isN w = true) (h : w.before args s = true) : w.before #[] s = true := by
  cases w with
  | fieldLinkNest a i b n d x => exact va_tabs rfl rfl h
  | methodLinkNest a i x y => exact va_tabs rfl rfl h
  | arrayOver t => exact h
  | _ => cases hk
theorem am_NW_warm {s U : State} (hW : s.WarmedH U.vm) (h : am_NW s) : am_NW U := fun w hw => am_N_warm hW (am_nt_k w hw) (h w hw)
theorem am_NW_same {u U : State} (hv : u.vm = U.vm) (h : am_NW u) : am_NW U := fun w hw => am_N_same hv (am_nt_k w hw) (h w hw)
theorem am_all {s : State} {args : Array Value} (hts : ∀ w ∈ am_gt, w.before args s = true) (hN : am_NW s) : ∀ w ∈ am_tb, w.before args s = true := by
  intro w hw
  have h1 := List.mem_filter.mp hw
  cases hg : goodWord w with
  | true => exact hts w (List.mem_filter.mpr ⟨h1.1, hg⟩)
  | false =>
    have hm : w ∈ am_nt := List.mem_filter.mpr ⟨h1.1, by have := h1.2; rw [hg, Bool.false_or] at this; exact this⟩
    exact am_N_use (am_nt_k w hm) (hN w hm)
theorem am_NW_of {s : State} {args : Array Value} (hts : ∀ w ∈ lw_tbl, w.before args s = true) : am_NW s := fun w hw => am_N_of (am_nt_k w hw) (hts w (List.mem_filter.mp hw).1)
end
section
/-! The small machine (am_): cells go by number, references never name addresses; all ints stand in one table. It runs the decoded instructions of a method; calls go to functions. -/
/-- a cell: .inl (array type, length, none: ints, or its references), .inr (its kind, its fields: none an int, some a reference) -/
abbrev am_D : Type := (Nat × Nat × Option (List (Option Nat))) ⊕ (Nat × List (Option (Option Nat)))
abbrev am_S : Type := Nat → Nat → Int32
abbrev am_H : Type := List am_D × am_S
abbrev am_F : Type := Nat → List Value → am_H → Option (Option Value × am_H)
/-- a method: code, fields, calls, blank objects, array types, the script, what it returns (0 int, 1 boolean, 2 nothing, 3 a reference) -/
abbrev am_M : Type := (Nat → Option Instr) × (Nat → Option (Nat × Nat × Nat)) × (Nat → Option (Nat × Option Nat × am_F)) × (Nat → Option (Nat × List (Option (Option Nat)))) × (Nat → Option Nat) × Option (Nat × (Nat → Int32)) × Nat
abbrev am_code (M : am_M) : Nat → Option Instr := M.1
abbrev am_fld (M : am_M) : Nat → Option (Nat × Nat × Nat) := M.2.1
abbrev am_cal (M : am_M) : Nat → Option (Nat × Option Nat × am_F) := M.2.2.1
abbrev am_new (M : am_M) : Nat → Option (Nat × List (Option (Option Nat))) := M.2.2.2.1
abbrev am_arr (M : am_M) : Nat → Option Nat := M.2.2.2.2.1
abbrev am_scr (M : am_M) : Option (Nat × (Nat → Int32)) := M.2.2.2.2.2.1
abbrev am_ret (M : am_M) : Nat := M.2.2.2.2.2.2
/-- a place outside an array of n -/
abbrev am_out (x : Int32) (n : Nat) : Prop := x < 0 ∨ n ≤ x.toNatClampNeg
def am_wr (s : am_S) (i k : Nat) (v : Int32) : am_S := if s i k = v then s else fun i' k' => if i' = i ∧ k' = k then v else s i' k'
theorem am_wr_at (s : am_S) (i k : Nat) (v : Int32) (i' k' : Nat) : am_wr s i k v i' k' = if i' = i ∧ k' = k then v else s i' k' := by
  unfold am_wr
  split
  · rename_i h
    split
    · rename_i h2
      rw [h2.1, h2.2, h]
    · rfl
  · rfl
theorem am_wr_self (s : am_S) (i k : Nat) (v : Int32) : am_wr s i k v i k = v := by rw [am_wr_at, if_pos ⟨rfl, rfl⟩]
theorem am_wr_row (s : am_S) {i k : Nat} {v : Int32} {i' : Nat} (h : i' ≠ i) : am_wr s i k v i' = s i' := by
  funext k'
  rw [am_wr_at, if_neg (fun q => h q.1)]
theorem am_wr_col (s : am_S) {i k : Nat} {v : Int32} {i' k' : Nat} (h : k' ≠ k) : am_wr s i k v i' k' = s i' k' := by
  rw [am_wr_at, if_neg (fun q => h q.2)]
theorem am_wr_upd (s : am_S) (i k : Nat) (v : Int32) : am_wr s i k v i = upd (s i) k v := by
  funext k'
  rw [am_wr_at]
  unfold upd
  by_cases h : k' = k
  · rw [if_pos ⟨rfl, h⟩, if_pos h]
  · rw [if_neg (fun q => h q.2), if_neg h]
def am_gf (h : am_H) (i ci k : Nat) : Option Value :=
  match h.1[i]? with
  | some (.inr q) => if q.1 = ci then (match q.2[k]? with
      | some none => some (.int (h.2 i k))
      | some (some none) => some .null
      | some (some (some j)) => some (.ref j)
      | none => none) else none
  | _ => none
def am_pf (h : am_H) (i ci k kd : Nat) (v : Value) : Option am_H :=
  match h.1[i]? with
  | some (.inr q) => if q.1 = ci then (match q.2[k]?, kd, v with
      | some none, 0, .int x => some (h.1, am_wr h.2 i k x)
      | some none, 1, .int x => if x = 0 ∨ x = 1 then some (h.1, am_wr h.2 i k x) else none
      | some (some _), 2, .ref j => some (h.1.set i (.inr (q.1, q.2.set k (some (some j)))), h.2)
      | _, _, _ => none) else none
  | _ => none
def am_ld (h : am_H) (t i : Nat) (x : Int32) : Option Int32 :=
  match h.1[i]? with
  | some (.inl (t', n, none)) => if t' = t ∧ ¬ am_out x n then some (h.2 i x.toNatClampNeg) else none
  | _ => none
def am_sd (h : am_H) (t i : Nat) (x v : Int32) : Option am_H :=
  match h.1[i]? with
  | some (.inl (t', n, none)) => if t' = t ∧ ¬ am_out x n ∧ (t = 0 ∨ v = 0 ∨ v = 1) then some (h.1, am_wr h.2 i x.toNatClampNeg v) else none
  | _ => none
def am_la (h : am_H) (i : Nat) (x : Int32) : Option Nat :=
  match h.1[i]? with
  | some (.inl (_, n, some rs)) => if am_out x n then none else (rs[x.toNatClampNeg]?).join
  | _ => none
/-- the array types, and whose objects they hold -/
def am_ty : Nat → Option FieldType
  | 0 => some .int
  | 1 => some .boolean
  | 2 => some (.object "PatchedMachine$Layout")
  | 3 => some (.object "PatchedMachine$Routine")
  | 4 => some (.object "PatchedMachine$Program")
  | 5 => some (.object "PatchedMachine$Frame")
  | 6 => some (.array .int)
  | _ => none
def am_tyc : Nat → Option Nat
  | 2 => some 0
  | 3 => some 1
  | 4 => some 2
  | 5 => some 7
  | _ => none
def am_sa (h : am_H) (i : Nat) (x : Int32) (j : Nat) : Option am_H :=
  match h.1[i]?, h.1[j]? with
  | some (.inl (t, n, some rs)), some (.inr q) => if am_out x n ∨ ¬ am_tyc t = some q.1 then none else some (h.1.set i (.inl (t, n, some (rs.set x.toNatClampNeg (some j)))), h.2)
  | _, _ => none
def am_len : Instr → Nat
  | .bipush _ => 2 | .sipush _ => 3
  | .iload _ => 2 | .istore _ => 2 | .aload _ => 2 | .astore _ => 2 | .newarray _ => 2
  | .iinc _ _ => 3 | .getfield _ => 3 | .putfield _ => 3 | .new _ => 3 | .anewarray _ => 3
  | .goto _ => 3 | .ifCond _ _ => 3 | .if_icmp _ _ => 3
  | .invokevirtual _ => 3 | .invokespecial _ => 3 | .invokestatic _ => 3
  | .multianewarray _ _ => 4
  | .tableswitch _ _ _ _ => 0 | .lookupswitch _ _ => 0
  | _ => 1
/-- a store; what lies beyond the known ones is forgotten -/
def am_lst (v : Value) : Nat → List Value → List Value
  | 0, l => v :: l.tail
  | i + 1, l => match l with
    | x :: r => x :: am_lst v i r
    | [] => []
def am_b2 (f : Int32 → Int32 → Int32) (ls st : List Value) : Option (List Value × List Value) :=
  match st with
  | .int y :: .int x :: r => some (ls, .int (f x y) :: r)
  | _ => none
def am_ildF (ls st : List Value) (k : Nat) : Option (List Value × List Value) :=
  match ls[k]? with
  | some (.int x) => some (ls, .int x :: st)
  | _ => none
def am_aldF (ls st : List Value) (k : Nat) : Option (List Value × List Value) :=
  match ls[k]? with
  | some (.ref x) => some (ls, .ref x :: st)
  | some (.retAddr x) => some (ls, .retAddr x :: st)
  | _ => none
def am_istF (ls st : List Value) (k : Nat) : Option (List Value × List Value) :=
  match st with
  | .int x :: r => some (am_lst (.int x) k ls, r)
  | _ => none
def am_astF (ls st : List Value) (k : Nat) : Option (List Value × List Value) :=
  match st with
  | .ref x :: r => some (am_lst (.ref x) k ls, r)
  | _ => none
def am_incF (ls st : List Value) (k : Nat) (n : Int) : Option (List Value × List Value) :=
  match ls[k]? with
  | some (.int x) => some (am_lst (.int (x + Int32.ofInt n)) k ls, st)
  | _ => none
def am_remF (ls st : List Value) : Option (List Value × List Value) :=
  match st with
  | .int y :: .int x :: r => if y = 0 then none else some (ls, .int (x - x / y * y) :: r)
  | _ => none
def am_c1 (v : Value) : Bool := match v with
  | .int _ => true
  | .ref _ => true
  | .retAddr _ => true
  | .null => true
  | _ => false
def am_dupF (ls st : List Value) : Option (List Value × List Value) :=
  match st with
  | a :: r => if am_c1 a then some (ls, a :: a :: r) else none
  | _ => none
def am_popF (ls st : List Value) : Option (List Value × List Value) :=
  match st with
  | a :: r => if am_c1 a then some (ls, r) else none
  | _ => none
def am_dx1F (ls st : List Value) : Option (List Value × List Value) :=
  match st with
  | a :: b :: r => if am_c1 a && am_c1 b then some (ls, a :: b :: a :: r) else none
  | _ => none
def am_dx2F (ls st : List Value) : Option (List Value × List Value) :=
  match st with
  | a :: b :: d :: r => if am_c1 a && am_c1 b && am_c1 d then some (ls, a :: b :: d :: a :: r) else none
  | _ => none
def am_d2F (ls st : List Value) : Option (List Value × List Value) :=
  match st with
  | a :: b :: r => if am_c1 a && am_c1 b then some (ls, a :: b :: a :: b :: r) else none
  | _ => none
/-- what is on the stack -/
def am_P (i : Instr) (ls st : List Value) : Option (List Value × List Value) :=
  match i with
  | .iconst n => some (ls, .int (Int32.ofInt n) :: st)
  | .bipush n => some (ls, .int (Int8.ofInt n).toInt32 :: st)
  | .sipush n => some (ls, .int (Int16.ofInt n).toInt32 :: st)
  | .iload_n k => am_ildF ls st k
  | .iload k => am_ildF ls st k
  | .aload_n k => am_aldF ls st k
  | .aload k => am_aldF ls st k
  | .istore_n k => am_istF ls st k
  | .istore k => am_istF ls st k
  | .astore_n k => am_astF ls st k
  | .astore k => am_astF ls st k
  | .iinc k n => am_incF ls st k n
  | .iadd => am_b2 (fun x y => x + y) ls st
  | .isub => am_b2 (fun x y => x - y) ls st
  | .imul => am_b2 (fun x y => x * y) ls st
  | .iand => am_b2 (fun x y => x &&& y) ls st
  | .ior => am_b2 (fun x y => x ||| y) ls st
  | .ixor => am_b2 (fun x y => x ^^^ y) ls st
  | .ishl => am_b2 (fun x y => x <<< (y &&& 31)) ls st
  | .ishr => am_b2 (fun x y => x >>> (y &&& 31)) ls st
  | .irem => am_remF ls st
  | .dup => am_dupF ls st
  | .pop => am_popF ls st
  | .dup_x1 => am_dx1F ls st
  | .dup_x2 => am_dx2F ls st
  | .dup2 => am_d2F ls st
  | _ => none
abbrev am_jmp (pc : Nat) (off : Int) : Nat := ((pc : Int) + off).toNat
def am_if (c : Jvm.ClassFile.Cond) (x y : Int32) (a b : Nat) : Nat := match c with
  | .eq => if x = y then a else b
  | .ne => if ¬ x = y then a else b
  | .lt => if x < y then a else b
  | .ge => if y ≤ x then a else b
  | .gt => if y < x then a else b
  | .le => if x ≤ y then a else b
def am_tsw (pc : Nat) (d lo hi : Int) (offs : Array Int) (x : Int32) : Nat := if x.toInt < lo ∨ hi < x.toInt then am_jmp pc d else am_jmp pc ((offs[(x.toInt - lo).toNat]?).getD 0)
def am_lsw (pc : Nat) (d : Int) (ps : Array (Int × Int)) (x : Int32) : Nat := am_jmp pc (Op.lookupswitch.offset ps.toList d x.toInt)
/-- jumps -/
def am_J (i : Instr) (pc : Nat) (st : List Value) : Option (Nat × List Value) :=
  match i with
  | .goto off => some (am_jmp pc off, st)
  | .ifCond c off => (match st with
    | .int x :: r => some (am_if c x 0 (am_jmp pc off) (pc + 3), r)
    | _ => none)
  | .if_icmp c off => (match st with
    | .int y :: .int x :: r => some (am_if c x y (am_jmp pc off) (pc + 3), r)
    | _ => none)
  | .tableswitch d lo hi offs => (match st with
    | .int x :: r => some (am_tsw pc d lo hi offs x, r)
    | _ => none)
  | .lookupswitch d ps => (match st with
    | .int x :: r => some (am_lsw pc d ps x, r)
    | _ => none)
  | _ => none
def am_gfF (M : am_M) (x : Nat) (st : List Value) (h : am_H) : Option (List Value × am_H) :=
  match am_fld M x, st with
  | some q, .ref i :: r => (match am_gf h i q.1 q.2.1 with
    | some v => some (v :: r, h)
    | none => none)
  | _, _ => none
def am_pfF (M : am_M) (x : Nat) (st : List Value) (h : am_H) : Option (List Value × am_H) :=
  match am_fld M x, st with
  | some q, v :: .ref i :: r => (match am_pf h i q.1 q.2.1 q.2.2 v with
    | some h' => some (r, h')
    | none => none)
  | _, _ => none
def am_sld (M : am_M) (x : Int32) : Option Int32 :=
  match am_scr M with
  | some q => if am_out x q.1 then none else some (q.2 x.toNatClampNeg)
  | none => none
def am_ldF (M : am_M) (t : Nat) (st : List Value) (h : am_H) : Option (List Value × am_H) :=
  match st with
  | .int x :: .ref i :: r => (match am_ld h t i x with
    | some v => some (.int v :: r, h)
    | none => none)
  | .int x :: .retAddr _ :: r => if t = 0 then (match am_sld M x with
    | some v => some (.int v :: r, h)
    | none => none) else none
  | _ => none
def am_sdF (t : Nat) (st : List Value) (h : am_H) : Option (List Value × am_H) :=
  match st with
  | .int v :: .int x :: .ref i :: r => (match am_sd h t i x v with
    | some h' => some (r, h')
    | none => none)
  | _ => none
def am_laF (st : List Value) (h : am_H) : Option (List Value × am_H) :=
  match st with
  | .int x :: .ref i :: r => (match am_la h i x with
    | some j => some (.ref j :: r, h)
    | none => none)
  | _ => none
def am_saF (st : List Value) (h : am_H) : Option (List Value × am_H) :=
  match st with
  | .ref j :: .int x :: .ref i :: r => (match am_sa h i x j with
    | some h' => some (r, h')
    | none => none)
  | _ => none
def am_alF (M : am_M) (st : List Value) (h : am_H) : Option (List Value × am_H) :=
  match am_scr M, st with
  | some q, .retAddr _ :: r => some (.int (Int32.ofNat q.1) :: r, h)
  | _, _ => none
def am_mkI (t : Nat) (st : List Value) (h : am_H) : Option (List Value × am_H) :=
  match st with
  | .int n :: r => if am_out n 1000 then none else some (.ref h.1.length :: r, (h.1 ++ [.inl (t, n.toNatClampNeg, none)], h.2))
  | _ => none
def am_mkA (M : am_M) (x : Nat) (st : List Value) (h : am_H) : Option (List Value × am_H) :=
  match am_arr M x, st with
  | some t, .int n :: r => if am_out n 1000 then none else some (.ref h.1.length :: r, (h.1 ++ [.inl (t, n.toNatClampNeg, some (List.replicate n.toNatClampNeg none))], h.2))
  | _, _ => none
def am_mkG (M : am_M) (x : Nat) (st : List Value) (h : am_H) : Option (List Value × am_H) :=
  match am_arr M x, st with
  | some t, .int k :: .int n :: r => if am_out n 1000 ∨ am_out k 1000 then none else
    some (.ref h.1.length :: r, (h.1 ++ ([.inl (t, n.toNatClampNeg, some ((List.range n.toNatClampNeg).map fun i => some (h.1.length + 1 + i)))] ++ List.replicate n.toNatClampNeg (.inl (0, k.toNatClampNeg, none))), h.2))
  | _, _ => none
def am_mkO (M : am_M) (x : Nat) (st : List Value) (h : am_H) : Option (List Value × am_H) :=
  match am_new M x with
  | some q => some (.ref h.1.length :: st, (h.1 ++ [.inr q], h.2))
  | none => none
/-- the cells -/
def am_X (M : am_M) (i : Instr) (st : List Value) (h : am_H) : Option (List Value × am_H) :=
  match i with
  | .getfield x => am_gfF M x st h
  | .putfield x => am_pfF M x st h
  | .iaload => am_ldF M 0 st h
  | .baload => am_ldF M 1 st h
  | .iastore => am_sdF 0 st h
  | .bastore => am_sdF 1 st h
  | .aaload => am_laF st h
  | .aastore => am_saF st h
  | .arraylength => am_alF M st h
  | .newarray .int => am_mkI 0 st h
  | .newarray .boolean => am_mkI 1 st h
  | .anewarray x => am_mkA M x st h
  | .multianewarray x k => if k = 2 then am_mkG M x st h else none
  | .new x => am_mkO M x st h
  | _ => none
/-- is the receiver of this kind? -/
def am_rc (h : am_H) (as : List Value) : Option Nat → Bool
  | none => true
  | some ci => match as with
    | .ref a :: _ => (match h.1[a]? with
      | some (.inr q) => q.1 == ci
      | _ => false)
    | _ => false
def am_callF (M : am_M) (N x : Nat) (st : List Value) (h : am_H) : Option (List Value × am_H) :=
  match am_cal M x with
  | some q => if (st.length < q.1 ∨ 8 < st.length - q.1) ∨ am_rc h (st.take q.1).reverse q.2.1 = false then none else (match q.2.2 N (st.take q.1).reverse h with
    | some z => some (z.1.toList ++ st.drop q.1, z.2)
    | none => none)
  | none => none
/-- calls -/
def am_Y (M : am_M) (N : Nat) (i : Instr) (st : List Value) (h : am_H) : Option (List Value × am_H) :=
  match i with
  | .invokevirtual x => am_callF M N x st h
  | .invokespecial x => am_callF M N x st h
  | .invokestatic x => am_callF M N x st h
  | _ => none
/-- returns -/
def am_R (M : am_M) (i : Instr) (st : List Value) : Option (Option Value) :=
  match i with
  | .ireturn => (match st with
    | [.int x] => if am_ret M = 0 ∨ am_ret M = 1 ∧ (x = 0 ∨ x = 1) then some (some (.int x)) else none
    | _ => none)
  | .areturn => (match st with
    | [.ref x] => if am_ret M = 3 then some (some (.ref x)) else none
    | _ => none)
  | .return_ => (match st with
    | [] => if am_ret M = 2 then some none else none
    | _ => none)
  | _ => none
def am_stp (M : am_M) (N : Nat) (i : Instr) (pc : Nat) (ls st : List Value) (h : am_H) : Option (Nat × List Value × List Value × am_H) :=
  match am_P i ls st with
  | some q => some (pc + am_len i, q.1, q.2, h)
  | none => match am_J i pc st with
    | some q => some (q.1, ls, q.2, h)
    | none => match am_X M i st h with
      | some q => some (pc + am_len i, ls, q.1, q.2)
      | none => match am_Y M N i st h with
        | some q => some (pc + 3, ls, q.1, q.2)
        | none => none
def am_run (M : am_M) (N : Nat) : Nat → Nat → List Value → List Value → am_H → Option (Option Value × am_H)
  | 0, _, _, _, _ => none
  | n + 1, pc, ls, st, h => match am_code M pc with
    | none => none
    | some i => match am_R M i st with
      | some r => some (r, h)
      | none => match am_stp M N i pc ls st h with
        | none => none
        | some q => am_run M N n q.1 q.2.1 q.2.2.1 q.2.2.2
end
section
/-! The small machine's runs: fuel goes away; each instruction is an equivalence. -/
def am_W (M : am_M) (pc : Nat) (ls st : List Value) (h : am_H) (Q : Option Value → am_H → Prop) : Prop := ∃ (N : Nat) (r : Option Value) (h' : am_H), am_run M N N pc ls st h = some (r, h') ∧ Q r h'
def am_C (f : am_F) (as : List Value) (h : am_H) (Q : Option Value → am_H → Prop) : Prop := ∃ (N : Nat) (r : Option Value) (h' : am_H), f N as h = some (r, h') ∧ Q r h'
def am_fn (M : am_M) : am_F := fun N as h => am_run M N N 0 as [] h
def am_mono (f : am_F) : Prop := ∀ (N N' : Nat) (as : List Value) (h : am_H) (x : Option Value × am_H), N ≤ N' → f N as h = some x → f N' as h = some x
def am_ok (M : am_M) : Prop := ∀ (x : Nat) (q : Nat × Option Nat × am_F), am_cal M x = some q → am_mono q.2.2
def am_ob {α : Type} (o : Option α) (K : α → Prop) : Prop := match o with
  | some a => K a
  | none => False
theorem am_ob_s {α : Type} (a : α) (K : α → Prop) : am_ob (some a) K ↔ K a := Iff.rfl
theorem am_ob_n {α : Type} (K : α → Prop) : am_ob none K ↔ False := Iff.rfl
section AW
variable {M : am_M} {N N' n n' pc x : Nat} {ls st rest : List Value} {h : am_H} {i : Instr} {Q : Option Value → am_H → Prop}
theorem am_callF_mono {z : List Value × am_H} (hM : am_ok M) (hN : N ≤ N') (e : am_callF M N x st h = some z) : am_callF M N' x st h = some z := by
  unfold am_callF at e ⊢
  cases hq : am_cal M x with
  | none => rw [hq] at e; cases e
  | some q =>
    rw [hq] at e
    dsimp only at e ⊢
    by_cases hc : (st.length < q.1 ∨ 8 < st.length - q.1) ∨ am_rc h (st.take q.1).reverse q.2.1 = false
    · rw [if_pos hc] at e; cases e
    · rw [if_neg hc] at e ⊢
      cases hf : q.2.2 N (st.take q.1).reverse h with
      | none => rw [hf] at e; cases e
      | some w =>
        rw [hf] at e
        rw [hM x q hq N N' _ _ w hN hf]
        exact e
theorem am_Y_mono {z : List Value × am_H} (hM : am_ok M) (hN : N ≤ N') (e : am_Y M N i st h = some z) : am_Y M N' i st h = some z := by
  cases i <;> first | exact am_callF_mono hM hN e | (simp [am_Y] at e; done)
theorem am_stp_mono {q : Nat × List Value × List Value × am_H} (hM : am_ok M) (hN : N ≤ N') (e : am_stp M N i pc ls st h = some q) : am_stp M N' i pc ls st h = some q := by
  unfold am_stp at e ⊢
  cases h1 : am_P i ls st with
  | some a => rw [h1] at e; exact e
  | none =>
    rw [h1] at e
    cases h2 : am_J i pc st with
    | some a => rw [h2] at e; exact e
    | none =>
      rw [h2] at e
      cases h3 : am_X M i st h with
      | some a => rw [h3] at e; exact e
      | none =>
        rw [h3] at e
        cases h4 : am_Y M N i st h with
        | some a => rw [h4] at e; rw [am_Y_mono hM hN h4]; exact e
        | none => rw [h4] at e; cases e
theorem am_run_step {q : Nat × List Value × List Value × am_H} (hc : am_code M pc = some i) (hr : am_R M i st = none) (hs : am_stp M N i pc ls st h = some q) : am_run M N (n + 1) pc ls st h = am_run M N n q.1 q.2.1 q.2.2.1 q.2.2.2 := by
  rw [am_run, hc]
  dsimp only
  rw [hr]
  dsimp only
  rw [hs]
theorem am_run_ret {r : Option Value} (hc : am_code M pc = some i) (hr : am_R M i st = some r) : am_run M N (n + 1) pc ls st h = some (r, h) := by
  rw [am_run, hc]
  dsimp only
  rw [hr]
theorem am_run_no (hc : am_code M pc = some i) (hr : am_R M i st = none) (hs : am_stp M N i pc ls st h = none) : am_run M N (n + 1) pc ls st h = none := by
  rw [am_run, hc]
  dsimp only
  rw [hr]
  dsimp only
  rw [hs]
theorem am_run_mono (hM : am_ok M) : ∀ (n n' N N' pc : Nat) (ls st : List Value) (h : am_H) (x : Option Value × am_H), N ≤ N' → n ≤ n' → am_run M N n pc ls st h = some x → am_run M N' n' pc ls st h = some x
  | 0, _, _, _, _, _, _, _, _, _, _, e => by cases e
  | n + 1, n', N, N', pc, ls, st, h, x, hN, hn, e => by
    obtain ⟨k, rfl⟩ : ∃ k, n' = k + 1 := ⟨n' - 1, by omega⟩
    cases hc : am_code M pc with
    | none => rw [am_run, hc] at e; cases e
    | some i =>
      cases hr : am_R M i st with
      | some r =>
        rw [am_run_ret hc hr] at e
        rw [am_run_ret hc hr]
        exact e
      | none =>
        cases hs : am_stp M N i pc ls st h with
        | none => rw [am_run_no hc hr hs] at e; cases e
        | some q =>
          rw [am_run_step hc hr hs] at e
          rw [am_run_step hc hr (am_stp_mono hM hN hs)]
          exact am_run_mono hM n k N N' _ _ _ _ x hN (by omega) e
theorem am_fn_mono (hM : am_ok M) : am_mono (am_fn M) := fun N N' as h x hN e => am_run_mono hM N N' N N' 0 as [] h x hN hN e
theorem am_C_fn {as : List Value} : am_C (am_fn M) as h Q ↔ am_W M 0 as [] h Q := Iff.rfl
theorem am_C_iff {f : am_F} {as : List Value} {r : Option Value} {h' : am_H} (hf : am_mono f) (e : am_C f as h (fun r1 h1 => r1 = r ∧ h1 = h')) : am_C f as h Q ↔ Q r h' := by
  obtain ⟨N, r1, h1, e, rfl, rfl⟩ := e
  constructor
  · rintro ⟨N2, r2, h2, e2, hQ⟩
    have a1 := hf N (max N N2) as h _ (Nat.le_max_left _ _) e
    have a2 := hf N2 (max N N2) as h _ (Nat.le_max_right _ _) e2
    rw [a1] at a2
    cases a2
    exact hQ
  · intro hQ
    exact ⟨N, r1, h1, e, hQ⟩
theorem am_C_weak {f : am_F} {as : List Value} {Q' : Option Value → am_H → Prop} (e : am_C f as h Q) (hq : ∀ r h', Q r h' → Q' r h') : am_C f as h Q' := by
  obtain ⟨N, r, h', e, q⟩ := e
  exact ⟨N, r, h', e, hq _ _ q⟩
theorem am_W_weak {Q' : Option Value → am_H → Prop} (e : am_W M pc ls st h Q) (hq : ∀ r h', Q r h' → Q' r h') : am_W M pc ls st h Q' := by
  obtain ⟨N, r, h', e, q⟩ := e
  exact ⟨N, r, h', e, hq _ _ q⟩
theorem am_go {q : Nat × List Value × List Value × am_H} (hM : am_ok M) (hc : am_code M pc = some i) (hr : am_R M i st = none) (hs : ∀ N, am_stp M N i pc ls st h = some q) : am_W M pc ls st h Q ↔ am_W M q.1 q.2.1 q.2.2.1 q.2.2.2 Q := by
  constructor
  · rintro ⟨N, r, h', e, hQ⟩
    cases N with
    | zero => cases e
    | succ N =>
      rw [am_run_step hc hr (hs _)] at e
      exact ⟨N + 1, r, h', am_run_mono hM _ _ _ _ _ _ _ _ _ (Nat.le_refl _) (Nat.le_succ _) e, hQ⟩
  · rintro ⟨N, r, h', e, hQ⟩
    refine ⟨N + 1, r, h', ?_, hQ⟩
    rw [am_run_step hc hr (hs _)]
    exact am_run_mono hM _ _ _ _ _ _ _ _ _ (Nat.le_succ N) (Nat.le_refl N) e
theorem am_no (hc : am_code M pc = some i) (hr : am_R M i st = none) (hs : ∀ N, am_stp M N i pc ls st h = none) : am_W M pc ls st h Q ↔ False := by
  constructor
  · rintro ⟨N, r, h', e, hQ⟩
    cases N with
    | zero => cases e
    | succ N => rw [am_run_no hc hr (hs _)] at e; cases e
  · exact False.elim
theorem am_re {r : Option Value} (hc : am_code M pc = some i) (hr : am_R M i st = some r) : am_W M pc ls st h Q ↔ Q r h := by
  constructor
  · rintro ⟨N, r2, h', e, hQ⟩
    cases N with
    | zero => cases e
    | succ N =>
      rw [am_run_ret hc hr] at e
      cases e
      exact hQ
  · intro hQ
    exact ⟨1, r, h, am_run_ret hc hr, hQ⟩
theorem am_ite {c : Prop} [Decidable c] {a b : Nat} : am_W M (if c then a else b) ls st h Q ↔ (c → am_W M a ls st h Q) ∧ (¬ c → am_W M b ls st h Q) := by
  by_cases hc : c
  · rw [if_pos hc]
    exact ⟨fun q => ⟨fun _ => q, fun z => absurd hc z⟩, fun q => q.1 hc⟩
  · rw [if_neg hc]
    exact ⟨fun q => ⟨fun z => absurd z hc, fun _ => q⟩, fun q => q.2 hc⟩
theorem am_iret {v : Int32} (hc : am_code M pc = some .ireturn) (hr : am_ret M = 0) : am_W M pc ls [.int v] h Q ↔ Q (some (.int v)) h := am_re hc (by simp [am_R, hr])
theorem am_zret {v : Int32} (hc : am_code M pc = some .ireturn) (hr : am_ret M = 1) : am_W M pc ls [.int v] h Q ↔ (v = 0 ∨ v = 1) ∧ Q (some (.int v)) h := by
  by_cases hv : v = 0 ∨ v = 1
  · rw [am_re hc (r := some (.int v)) (by simp [am_R, hr, hv])]
    exact ⟨fun q => ⟨hv, q⟩, fun q => q.2⟩
  · rw [am_no hc (by simp [am_R, hr, hv]) (fun _ => rfl)]
    exact ⟨False.elim, fun q => hv q.1⟩
theorem am_vret (hc : am_code M pc = some .return_) (hr : am_ret M = 2) : am_W M pc ls [] h Q ↔ Q none h := am_re hc (by simp [am_R, hr])
theorem am_aret {a : Nat} (hc : am_code M pc = some .areturn) (hr : am_ret M = 3) : am_W M pc ls [.ref a] h Q ↔ Q (some (.ref a)) h := am_re hc (by simp [am_R, hr])
theorem am_getf {a ci k kd : Nat} (hM : am_ok M) (hc : am_code M pc = some (.getfield x)) (hf : am_fld M x = some (ci, k, kd)) : am_W M pc ls (.ref a :: st) h Q ↔ am_ob (am_gf h a ci k) (fun v => am_W M (pc + 3) ls (v :: st) h Q) := by
  cases hg : am_gf h a ci k with
  | some v => exact am_go (q := (pc + 3, ls, v :: st, h)) hM hc rfl (fun _ => by simp [am_stp, am_P, am_J, am_X, am_gfF, hf, hg, am_len])
  | none => exact am_no hc rfl (fun _ => by simp [am_stp, am_P, am_J, am_X, am_Y, am_gfF, hf, hg])
theorem am_putf {v : Value} {a ci k kd : Nat} (hM : am_ok M) (hc : am_code M pc = some (.putfield x)) (hf : am_fld M x = some (ci, k, kd)) : am_W M pc ls (v :: .ref a :: st) h Q ↔ am_ob (am_pf h a ci k kd v) (fun h' => am_W M (pc + 3) ls st h' Q) := by
  cases hg : am_pf h a ci k kd v with
  | some h' => exact am_go (q := (pc + 3, ls, st, h')) hM hc rfl (fun _ => by simp [am_stp, am_P, am_J, am_X, am_pfF, hf, hg, am_len])
  | none => exact am_no hc rfl (fun _ => by simp [am_stp, am_P, am_J, am_X, am_Y, am_pfF, hf, hg])
theorem am_iald {y : Int32} {a : Nat} (hM : am_ok M) (hc : am_code M pc = some .iaload) : am_W M pc ls (.int y :: .ref a :: st) h Q ↔ am_ob (am_ld h 0 a y) (fun v => am_W M (pc + 1) ls (.int v :: st) h Q) := by
  cases hg : am_ld h 0 a y with
  | some v => exact am_go (q := (pc + 1, ls, .int v :: st, h)) hM hc rfl (fun _ => by simp [am_stp, am_P, am_J, am_X, am_ldF, hg, am_len])
  | none => exact am_no hc rfl (fun _ => by simp [am_stp, am_P, am_J, am_X, am_Y, am_ldF, hg])
theorem am_zald {y : Int32} {a : Nat} (hM : am_ok M) (hc : am_code M pc = some .baload) : am_W M pc ls (.int y :: .ref a :: st) h Q ↔ am_ob (am_ld h 1 a y) (fun v => am_W M (pc + 1) ls (.int v :: st) h Q) := by
  cases hg : am_ld h 1 a y with
  | some v => exact am_go (q := (pc + 1, ls, .int v :: st, h)) hM hc rfl (fun _ => by simp [am_stp, am_P, am_J, am_X, am_ldF, hg, am_len])
  | none => exact am_no hc rfl (fun _ => by simp [am_stp, am_P, am_J, am_X, am_Y, am_ldF, hg])
theorem am_sald {y : Int32} {a : Nat} (hM : am_ok M) (hc : am_code M pc = some .iaload) : am_W M pc ls (.int y :: .retAddr a :: st) h Q ↔ am_ob (am_sld M y) (fun v => am_W M (pc + 1) ls (.int v :: st) h Q) := by
  cases hg : am_sld M y with
  | some v => exact am_go (q := (pc + 1, ls, .int v :: st, h)) hM hc rfl (fun _ => by simp [am_stp, am_P, am_J, am_X, am_ldF, hg, am_len])
  | none => exact am_no hc rfl (fun _ => by simp [am_stp, am_P, am_J, am_X, am_Y, am_ldF, hg])
theorem am_iast {v y : Int32} {a : Nat} (hM : am_ok M) (hc : am_code M pc = some .iastore) : am_W M pc ls (.int v :: .int y :: .ref a :: st) h Q ↔ am_ob (am_sd h 0 a y v) (fun h' => am_W M (pc + 1) ls st h' Q) := by
  cases hg : am_sd h 0 a y v with
  | some h' => exact am_go (q := (pc + 1, ls, st, h')) hM hc rfl (fun _ => by simp [am_stp, am_P, am_J, am_X, am_sdF, hg, am_len])
  | none => exact am_no hc rfl (fun _ => by simp [am_stp, am_P, am_J, am_X, am_Y, am_sdF, hg])
theorem am_zast {v y : Int32} {a : Nat} (hM : am_ok M) (hc : am_code M pc = some .bastore) : am_W M pc ls (.int v :: .int y :: .ref a :: st) h Q ↔ am_ob (am_sd h 1 a y v) (fun h' => am_W M (pc + 1) ls st h' Q) := by
  cases hg : am_sd h 1 a y v with
  | some h' => exact am_go (q := (pc + 1, ls, st, h')) hM hc rfl (fun _ => by simp [am_stp, am_P, am_J, am_X, am_sdF, hg, am_len])
  | none => exact am_no hc rfl (fun _ => by simp [am_stp, am_P, am_J, am_X, am_Y, am_sdF, hg])
theorem am_aald {y : Int32} {a : Nat} (hM : am_ok M) (hc : am_code M pc = some .aaload) : am_W M pc ls (.int y :: .ref a :: st) h Q ↔ am_ob (am_la h a y) (fun v => am_W M (pc + 1) ls (.ref v :: st) h Q) := by
  cases hg : am_la h a y with
  | some v => exact am_go (q := (pc + 1, ls, .ref v :: st, h)) hM hc rfl (fun _ => by simp [am_stp, am_P, am_J, am_X, am_laF, hg, am_len])
  | none => exact am_no hc rfl (fun _ => by simp [am_stp, am_P, am_J, am_X, am_Y, am_laF, hg])
theorem am_slen {L : Nat} {f : Nat → Int32} {a : Nat} (hM : am_ok M) (hc : am_code M pc = some .arraylength) (hs : am_scr M = some (L, f)) : am_W M pc ls (.retAddr a :: st) h Q ↔ am_W M (pc + 1) ls (.int (Int32.ofNat L) :: st) h Q := by
  exact am_go (q := (pc + 1, ls, .int (Int32.ofNat L) :: st, h)) hM hc rfl (fun _ => by simp [am_stp, am_P, am_J, am_X, am_alF, hs, am_len])
theorem am_ca {f : am_F} {na : Nat} {rc : Option Nat} (hM : am_ok M) (hc : am_code M pc = some i) (hi : i = .invokevirtual x ∨ i = .invokespecial x ∨ i = .invokestatic x) (hq : am_cal M x = some (na, rc, f)) (as rest : List Value) (hn : as.length = na) :
    am_W M pc ls (as.reverse ++ rest) h Q ↔ (rest.length ≤ 8 ∧ am_rc h as rc = true) ∧ am_C f as h (fun r h' => am_W M (pc + 3) ls (r.toList ++ rest) h' Q) := by
  subst hn
  have hr : am_R M i (as.reverse ++ rest) = none := by rcases hi with rfl | rfl | rfl <;> rfl
  have hs : ∀ N, am_stp M N i pc ls (as.reverse ++ rest) h = match am_callF M N x (as.reverse ++ rest) h with
      | some q => some (pc + 3, ls, q.1, q.2)
      | none => none := by
    intro N
    rcases hi with rfl | rfl | rfl <;> rfl
  have hk : ∀ N, am_callF M N x (as.reverse ++ rest) h = if 8 < rest.length ∨ am_rc h as rc = false then none else (match f N as h with
      | some z => some (z.1.toList ++ rest, z.2)
      | none => none) := by
    intro N
    unfold am_callF
    rw [hq]
    dsimp only
    have e1 : (as.reverse ++ rest).length = as.length + rest.length := by simp
    have e2 : (as.reverse ++ rest).take as.length = as.reverse := by
      rw [← List.length_reverse (as := as), List.take_left]
    have e3 : (as.reverse ++ rest).drop as.length = rest := by
      rw [← List.length_reverse (as := as), List.drop_left]
    rw [e1, e2, e3, List.reverse_reverse, Nat.add_sub_cancel_left]
    by_cases h8 : 8 < rest.length ∨ am_rc h as rc = false
    · rw [if_pos (by rcases h8 with h8 | h8; exact Or.inl (Or.inr h8); exact Or.inr h8), if_pos h8]
    · rw [if_neg (by intro q; rcases q with (q | q) | q; omega; exact h8 (Or.inl q); exact h8 (Or.inr q)), if_neg h8]
      rfl
  by_cases h8 : 8 < rest.length ∨ am_rc h as rc = false
  · refine (am_no hc hr (fun N => ?_)).trans ⟨False.elim, fun q => ?_⟩
    · rw [hs, hk, if_pos h8]
    · obtain ⟨⟨q1, q2⟩, -⟩ := q
      rcases h8 with h8 | h8
      · omega
      · rw [q2] at h8; cases h8
  · constructor
    · rintro ⟨N, r, h', e, hQ⟩
      have h9 : am_rc h as rc = true := by
        cases hz : am_rc h as rc with
        | true => rfl
        | false => exact absurd (Or.inr hz) h8
      refine ⟨⟨Nat.not_lt.mp (fun q => h8 (Or.inl q)), h9⟩, ?_⟩
      cases N with
      | zero => cases e
      | succ N =>
        cases hf : f (N + 1) as h with
        | none =>
          rw [am_run_no hc hr (by rw [hs, hk, if_neg h8, hf])] at e
          cases e
        | some z =>
          rw [am_run_step (q := (pc + 3, ls, z.1.toList ++ rest, z.2)) hc hr (by rw [hs, hk, if_neg h8, hf])] at e
          exact ⟨N + 1, z.1, z.2, hf, N + 1, r, h', am_run_mono hM _ _ _ _ _ _ _ _ _ (Nat.le_refl _) (Nat.le_succ _) e, hQ⟩
    · rintro ⟨-, N1, r1, h1, e1, N2, r, h', e, hQ⟩
      refine ⟨max N1 N2 + 1, r, h', ?_, hQ⟩
      have hf : f (max N1 N2 + 1) as h = some (r1, h1) := hM x _ hq N1 (max N1 N2 + 1) as h _ (by omega) e1
      rw [am_run_step (q := (pc + 3, ls, r1.toList ++ rest, h1)) hc hr (by rw [hs, hk, if_neg h8, hf])]
      exact am_run_mono hM _ _ _ _ _ _ _ _ _ (by omega) (by omega) e
end AW
end
section
/-! The small machine against the kit's machine, first half: stack, jumps. -/
def am_rn (al : Nat → Nat) (sb : Nat) : Value → Value
  | .ref i => .ref (al i)
  | .retAddr _ => .ref sb
  | v => v
def am_vw (n : Nat) : Value → Prop
  | .ref j => j < n
  | .int _ => True
  | .null => True
  | .retAddr _ => True
  | _ => False
theorem am_vw_cat {n : Nat} {v : Value} (al : Nat → Nat) (sb : Nat) (h : am_vw n v) : (am_rn al sb v).category = 1 := by
  cases v <;> first | rfl | exact False.elim h
theorem am_vw_up {n n' : Nat} {v : Value} (hn : n ≤ n') (h : am_vw n v) : am_vw n' v := by
  cases v <;> first | exact h | exact Nat.lt_of_lt_of_le h hn
theorem am_rn_eq {al al' : Nat → Nat} {sb n : Nat} {v : Value} (h : am_vw n v) (ha : ∀ i, i < n → al' i = al i) : am_rn al' sb v = am_rn al sb v := by
  cases v <;> first | rfl | exact congrArg Value.ref (ha _ h)
theorem am_rn_map {al al' : Nat → Nat} {sb n : Nat} {vs : List Value} (h : ∀ v ∈ vs, am_vw n v) (ha : ∀ i, i < n → al' i = al i) : vs.map (am_rn al' sb) = vs.map (am_rn al sb) :=
  List.map_congr_left fun v hv => am_rn_eq (h v hv) ha
def am_L (al : Nat → Nat) (sb n nL : Nat) (ls : List Value) (lk : Array Slot) : Prop := lk.size = nL ∧ lv_wf lk ∧ ∀ (k : Nat) (v : Value), ls[k]? = some v → lk[k]? = some (.val (am_rn al sb v)) ∧ am_vw n v
def am_prs (al : Nat → Nat) (sb : Nat) (ls : List Value) : List (Nat × Value) := ls.mapIdx (fun k v => (k, am_rn al sb v))
theorem am_prs_mem {al : Nat → Nat} {sb : Nat} {ls : List Value} {q : Nat × Value} : q ∈ am_prs al sb ls ↔ ∃ (k : Nat) (v : Value), ls[k]? = some v ∧ q = (k, am_rn al sb v) := by
  unfold am_prs
  rw [List.mem_mapIdx]
  constructor
  · rintro ⟨i, hi, rfl⟩
    exact ⟨i, ls[i], List.getElem?_eq_getElem hi, rfl⟩
  · rintro ⟨k, v, hk, rfl⟩
    obtain ⟨hi, e⟩ := List.getElem?_eq_some_iff.mp hk
    exact ⟨k, hi, by rw [e]⟩
theorem am_L_has {al : Nat → Nat} {sb n nL : Nat} {ls : List Value} {lk : Array Slot} (hL : am_L al sb n nL ls lk) : lv_has lk nL (am_prs al sb ls) :=
  ⟨hL.1, hL.2.1, fun q hq => by
    obtain ⟨k, v, hk, rfl⟩ := am_prs_mem.mp hq
    exact (hL.2.2 k v hk).1⟩
theorem am_L_up {al al' : Nat → Nat} {sb n n' nL : Nat} {ls : List Value} {lk : Array Slot} (hL : am_L al sb n nL ls lk) (hn : n ≤ n') (ha : ∀ i, i < n → al' i = al i) : am_L al' sb n' nL ls lk :=
  ⟨hL.1, hL.2.1, fun k v hk => ⟨by rw [am_rn_eq (hL.2.2 k v hk).2 ha]; exact (hL.2.2 k v hk).1, am_vw_up hn (hL.2.2 k v hk).2⟩⟩
theorem am_lst_get (v w : Value) : ∀ (i : Nat) (ls : List Value) (k : Nat), (am_lst v i ls)[k]? = some w → (k = i ∧ w = v) ∨ (k ≠ i ∧ ls[k]? = some w)
  | 0, l, k, h => by
    cases k with
    | zero =>
      have h : some v = some w := h
      exact Or.inl ⟨rfl, (Option.some.inj h).symm⟩
    | succ k =>
      have h : l.tail[k]? = some w := h
      refine Or.inr ⟨by omega, ?_⟩
      cases l with
      | nil => cases h
      | cons a l => exact h
  | i + 1, [], k, h => by cases h
  | i + 1, x :: r, k, h => by
    cases k with
    | zero => exact Or.inr ⟨by omega, h⟩
    | succ k =>
      rcases am_lst_get v w i r k h with ⟨h1, h2⟩ | ⟨h1, h2⟩
      · exact Or.inl ⟨by omega, h2⟩
      · exact Or.inr ⟨by omega, h2⟩
theorem am_L_store {al : Nat → Nat} {sb n nL i : Nat} {v : Value} {ls : List Value} {lk lk' : Array Slot} (hL : am_L al sb n nL ls lk) (hv : am_vw n v)
    (h : lv_has lk' nL ((i, am_rn al sb v) :: (am_prs al sb ls).filter (fun q => !(q.1 == i) && !(q.1 + 1 == i && q.2.category == 2)))) : am_L al sb n nL (am_lst v i ls) lk' := by
  refine ⟨h.1, h.2.1, fun k w hk => ?_⟩
  rcases am_lst_get _ _ _ _ _ hk with ⟨rfl, rfl⟩ | ⟨hne, hk⟩
  · exact ⟨h.2.2 _ List.mem_cons_self, hv⟩
  · have hw := (hL.2.2 k w hk).2
    refine ⟨h.2.2 (k, am_rn al sb w) (List.mem_cons_of_mem _ (List.mem_filter.mpr ⟨am_prs_mem.mpr ⟨k, w, hk, rfl⟩, ?_⟩)), hw⟩
    simp [hne, am_vw_cat al sb hw]
/-- bounds that a program decides -/
def am_bd (nL pc : Nat) (i : Instr) : Bool := match i with
  | .istore k => decide (k < nL)
  | .astore k => decide (k < nL)
  | .istore_n k => decide ((k : Nat) < nL)
  | .astore_n k => decide ((k : Nat) < nL)
  | .iinc k _ => decide (k < nL)
  | .goto off => decide (0 ≤ (pc : Int) + off)
  | .ifCond _ off => decide (0 ≤ (pc : Int) + off)
  | .if_icmp _ off => decide (0 ≤ (pc : Int) + off)
  | .tableswitch d lo hi offs => decide (0 ≤ (pc : Int) + d) && (decide (hi - lo + 1 = (offs.size : Int)) && offs.toList.all (fun o => decide (0 ≤ (pc : Int) + o)))
  | .lookupswitch d ps => decide (0 ≤ (pc : Int) + d) && ((ps.toList.zip (ps.toList.drop 1)).all (fun (a, next) => a.1 < next.1) && ps.toList.all (fun q => decide (0 ≤ (pc : Int) + q.2)))
  | _ => true
theorem am_b2_some {f : Int32 → Int32 → Int32} {ls st : List Value} {q : List Value × List Value} (e : am_b2 f ls st = some q) : ∃ x y r, st = .int y :: .int x :: r ∧ q = (ls, .int (f x y) :: r) := by
  unfold am_b2 at e
  split at e
  · exact ⟨_, _, _, rfl, (Option.some.inj e).symm⟩
  · cases e
theorem am_ildF_some {k : Nat} {ls st : List Value} {q : List Value × List Value} (e : am_ildF ls st k = some q) : ∃ x, ls[k]? = some (.int x) ∧ q = (ls, .int x :: st) := by
  unfold am_ildF at e
  split at e
  · rename_i x hx
    exact ⟨x, hx, (Option.some.inj e).symm⟩
  · cases e
theorem am_aldF_some {k : Nat} {ls st : List Value} {q : List Value × List Value} (e : am_aldF ls st k = some q) : ∃ v, ls[k]? = some v ∧ (∀ (al : Nat → Nat) (sb : Nat), ∃ a, am_rn al sb v = .ref a) ∧ q = (ls, v :: st) := by
  unfold am_aldF at e
  split at e
  · rename_i x hx
    exact ⟨_, hx, fun al sb => ⟨_, rfl⟩, (Option.some.inj e).symm⟩
  · rename_i x hx
    exact ⟨_, hx, fun al sb => ⟨_, rfl⟩, (Option.some.inj e).symm⟩
  · cases e
theorem am_istF_some {k : Nat} {ls st : List Value} {q : List Value × List Value} (e : am_istF ls st k = some q) : ∃ x r, st = .int x :: r ∧ q = (am_lst (.int x) k ls, r) := by
  unfold am_istF at e
  split at e
  · exact ⟨_, _, rfl, (Option.some.inj e).symm⟩
  · cases e
theorem am_astF_some {k : Nat} {ls st : List Value} {q : List Value × List Value} (e : am_astF ls st k = some q) : ∃ x r, st = .ref x :: r ∧ q = (am_lst (.ref x) k ls, r) := by
  unfold am_astF at e
  split at e
  · exact ⟨_, _, rfl, (Option.some.inj e).symm⟩
  · cases e
theorem am_incF_some {k : Nat} {n : Int} {ls st : List Value} {q : List Value × List Value} (e : am_incF ls st k n = some q) : ∃ x, ls[k]? = some (.int x) ∧ q = (am_lst (.int (x + Int32.ofInt n)) k ls, st) := by
  unfold am_incF at e
  split at e
  · rename_i x hx
    exact ⟨x, hx, (Option.some.inj e).symm⟩
  · cases e
theorem am_remF_some {ls st : List Value} {q : List Value × List Value} (e : am_remF ls st = some q) : ∃ x y r, st = .int y :: .int x :: r ∧ ¬ y = 0 ∧ q = (ls, .int (x - x / y * y) :: r) := by
  unfold am_remF at e
  split at e
  · split at e
    · cases e
    · rename_i h
      exact ⟨_, _, _, rfl, h, (Option.some.inj e).symm⟩
  · cases e
theorem am_dupF_some {ls st : List Value} {q : List Value × List Value} (e : am_dupF ls st = some q) : ∃ a r, st = a :: r ∧ q = (ls, a :: a :: r) := by
  unfold am_dupF at e
  split at e
  · split at e
    · exact ⟨_, _, rfl, (Option.some.inj e).symm⟩
    · cases e
  · cases e
theorem am_popF_some {ls st : List Value} {q : List Value × List Value} (e : am_popF ls st = some q) : ∃ a r, st = a :: r ∧ q = (ls, r) := by
  unfold am_popF at e
  split at e
  · split at e
    · exact ⟨_, _, rfl, (Option.some.inj e).symm⟩
    · cases e
  · cases e
theorem am_dx1F_some {ls st : List Value} {q : List Value × List Value} (e : am_dx1F ls st = some q) : ∃ a b r, st = a :: b :: r ∧ q = (ls, a :: b :: a :: r) := by
  unfold am_dx1F at e
  split at e
  · split at e
    · exact ⟨_, _, _, rfl, (Option.some.inj e).symm⟩
    · cases e
  · cases e
theorem am_dx2F_some {ls st : List Value} {q : List Value × List Value} (e : am_dx2F ls st = some q) : ∃ a b d r, st = a :: b :: d :: r ∧ q = (ls, a :: b :: d :: a :: r) := by
  unfold am_dx2F at e
  split at e
  · split at e
    · exact ⟨_, _, _, _, rfl, (Option.some.inj e).symm⟩
    · cases e
  · cases e
theorem am_d2F_some {ls st : List Value} {q : List Value × List Value} (e : am_d2F ls st = some q) : ∃ a b r, st = a :: b :: r ∧ q = (ls, a :: b :: a :: b :: r) := by
  unfold am_d2F at e
  split at e
  · split at e
    · exact ⟨_, _, _, rfl, (Option.some.inj e).symm⟩
    · cases e
  · cases e
theorem am_fa {P : Value → Prop} {a : Value} {l : List Value} (ha : P a) (hl : ∀ v ∈ l, P v) : ∀ v ∈ a :: l, P v := List.forall_mem_cons.mpr ⟨ha, hl⟩
section AMP
variable {p : Program} {l : Launch} {e : Env} {R : Room} {s : State} {m : MethodId} {args : Array Value} {below : List Frame} {meth : Method} {c : Code} {H : Heap} {locs : List Loc} {cells slots : Nat} {Q : State → Prop}
variable {cc : ByteArray} {pc : Nat} {lk : Array Slot} {ls ls' st st' : List Value} {al : Nat → Nat} {sb n nL : Nat} {i : Instr}
theorem am_simP (hx : p.tables.exec = Jvm.exec) (hb : c.code = cc) (hd : decode cc pc = .ok (i, am_len i)) (hbd : am_bd nL pc i = true) (he : am_P i ls st = some (ls', st')) (hL : am_L al sb n nL ls lk) (hs : ∀ v ∈ st, am_vw n v)
    (kk : ∀ lk' : Array Slot, am_L al sb n nL ls' lk' → (∀ v ∈ st', am_vw n v) → W p l e R s m args below meth c H locs cells slots Q (F0 m (pc + am_len i) lk' (st'.map (am_rn al sb)))) : W p l e R s m args below meth c H locs cells slots Q (F0 m pc lk (st.map (am_rn al sb))) := by
  cases i with
  | iconst k =>
    have he : some (ls, Value.int (Int32.ofInt k) :: st) = some (ls', st') := he
    cases he
    exact lv_iconst hx hb hd rfl (kk lk hL (am_fa trivial hs))
  | bipush k =>
    have he : some (ls, Value.int (Int8.ofInt k).toInt32 :: st) = some (ls', st') := he
    cases he
    exact lv_bipush hx hb hd rfl (kk lk hL (am_fa trivial hs))
  | sipush k =>
    have he : some (ls, Value.int (Int16.ofInt k).toInt32 :: st) = some (ls', st') := he
    cases he
    exact lv_sipush hx hb hd rfl (kk lk hL (am_fa trivial hs))
  | iload_n k =>
    obtain ⟨x, h1, h2⟩ := am_ildF_some he
    cases h2
    exact lv_iload_n hx hb hd rfl (hL.2.2 _ _ h1).1 (kk lk hL (am_fa trivial hs))
  | iload k =>
    obtain ⟨x, h1, h2⟩ := am_ildF_some he
    cases h2
    exact lv_iload hx hb hd (hL.2.2 _ _ h1).1 (kk lk hL (am_fa trivial hs))
  | aload_n k =>
    obtain ⟨v, h1, h3, h2⟩ := am_aldF_some he
    cases h2
    obtain ⟨a, ha⟩ := h3 al sb
    have h4 := hL.2.2 _ _ h1
    have kk := kk lk hL (am_fa h4.2 hs)
    rw [List.map_cons, ha] at kk
    exact lv_aload_n hx hb hd rfl (by rw [h4.1, ha]) kk
  | aload k =>
    obtain ⟨v, h1, h3, h2⟩ := am_aldF_some he
    cases h2
    obtain ⟨a, ha⟩ := h3 al sb
    have h4 := hL.2.2 _ _ h1
    have kk := kk lk hL (am_fa h4.2 hs)
    rw [List.map_cons, ha] at kk
    exact lv_aload hx hb hd (by rw [h4.1, ha]) kk
  | istore_n k =>
    obtain ⟨x, r, rfl, h2⟩ := am_istF_some he
    cases h2
    exact lv_istore_n hx hb hd rfl (am_L_has hL) (of_decide_eq_true hbd) rfl (fun lk' h => kk lk' (am_L_store hL trivial h) (List.forall_mem_cons.mp hs).2)
  | istore k =>
    obtain ⟨x, r, rfl, h2⟩ := am_istF_some he
    cases h2
    exact lv_istore hx hb hd (am_L_has hL) (of_decide_eq_true hbd) rfl (fun lk' h => kk lk' (am_L_store hL trivial h) (List.forall_mem_cons.mp hs).2)
  | astore_n k =>
    obtain ⟨x, r, rfl, h2⟩ := am_astF_some he
    cases h2
    exact lv_astore_n hx hb hd rfl (am_L_has hL) (of_decide_eq_true hbd) rfl (fun lk' h => kk lk' (am_L_store (v := .ref x) hL (List.forall_mem_cons.mp hs).1 h) (List.forall_mem_cons.mp hs).2)
  | astore k =>
    obtain ⟨x, r, rfl, h2⟩ := am_astF_some he
    cases h2
    exact lv_astore hx hb hd (am_L_has hL) (of_decide_eq_true hbd) rfl (fun lk' h => kk lk' (am_L_store (v := .ref x) hL (List.forall_mem_cons.mp hs).1 h) (List.forall_mem_cons.mp hs).2)
  | iinc k z =>
    obtain ⟨x, h1, h2⟩ := am_incF_some he
    cases h2
    have h3 : (am_prs al sb ls)[k]? = some (k, .int x) := by
      unfold am_prs
      rw [List.getElem?_mapIdx, h1]
      rfl
    exact lv_iinc hx hb hd (am_L_has hL) h3 rfl (of_decide_eq_true hbd) rfl (fun lk' h => kk lk' (am_L_store (v := .int (x + Int32.ofInt z)) hL trivial h) hs)
  | iadd =>
    obtain ⟨x, y, r, rfl, h2⟩ := am_b2_some he
    cases h2
    exact lv_iadd hx hb hd (kk lk hL (am_fa trivial (List.forall_mem_cons.mp (List.forall_mem_cons.mp hs).2).2))
  | isub =>
    obtain ⟨x, y, r, rfl, h2⟩ := am_b2_some he
    cases h2
    exact lv_isub hx hb hd (kk lk hL (am_fa trivial (List.forall_mem_cons.mp (List.forall_mem_cons.mp hs).2).2))
  | imul =>
    obtain ⟨x, y, r, rfl, h2⟩ := am_b2_some he
    cases h2
    exact lv_imul hx hb hd (kk lk hL (am_fa trivial (List.forall_mem_cons.mp (List.forall_mem_cons.mp hs).2).2))
  | iand =>
    obtain ⟨x, y, r, rfl, h2⟩ := am_b2_some he
    cases h2
    exact lv_iand hx hb hd (kk lk hL (am_fa trivial (List.forall_mem_cons.mp (List.forall_mem_cons.mp hs).2).2))
  | ior =>
    obtain ⟨x, y, r, rfl, h2⟩ := am_b2_some he
    cases h2
    exact lv_ior hx hb hd (kk lk hL (am_fa trivial (List.forall_mem_cons.mp (List.forall_mem_cons.mp hs).2).2))
  | ixor =>
    obtain ⟨x, y, r, rfl, h2⟩ := am_b2_some he
    cases h2
    exact lv_ixor hx hb hd (kk lk hL (am_fa trivial (List.forall_mem_cons.mp (List.forall_mem_cons.mp hs).2).2))
  | ishl =>
    obtain ⟨x, y, r, rfl, h2⟩ := am_b2_some he
    cases h2
    exact lv_ishl hx hb hd (kk lk hL (am_fa trivial (List.forall_mem_cons.mp (List.forall_mem_cons.mp hs).2).2))
  | ishr =>
    obtain ⟨x, y, r, rfl, h2⟩ := am_b2_some he
    cases h2
    exact lv_ishr hx hb hd (kk lk hL (am_fa trivial (List.forall_mem_cons.mp (List.forall_mem_cons.mp hs).2).2))
  | irem =>
    obtain ⟨x, y, r, rfl, h3, h2⟩ := am_remF_some he
    cases h2
    exact lv_irem hx hb hd h3 (kk lk hL (am_fa trivial (List.forall_mem_cons.mp (List.forall_mem_cons.mp hs).2).2))
  | dup =>
    obtain ⟨a, r, rfl, h2⟩ := am_dupF_some he
    cases h2
    have h1 := List.forall_mem_cons.mp hs
    exact lv_dup hx hb hd (am_vw_cat al sb h1.1) (kk lk hL (am_fa h1.1 hs))
  | pop =>
    obtain ⟨a, r, rfl, h2⟩ := am_popF_some he
    cases h2
    have h1 := List.forall_mem_cons.mp hs
    exact lv_pop hx hb hd (am_vw_cat al sb h1.1) (kk lk hL h1.2)
  | dup_x1 =>
    obtain ⟨a, b, r, rfl, h2⟩ := am_dx1F_some he
    cases h2
    have h1 := List.forall_mem_cons.mp hs
    have h3 := List.forall_mem_cons.mp h1.2
    exact lv_dup_x1 hx hb hd (am_vw_cat al sb h1.1) (am_vw_cat al sb h3.1) (kk lk hL (am_fa h1.1 (am_fa h3.1 (am_fa h1.1 h3.2))))
  | dup_x2 =>
    obtain ⟨a, b, d, r, rfl, h2⟩ := am_dx2F_some he
    cases h2
    have h1 := List.forall_mem_cons.mp hs
    have h3 := List.forall_mem_cons.mp h1.2
    have h4 := List.forall_mem_cons.mp h3.2
    exact lv_dup_x2 hx hb hd (am_vw_cat al sb h1.1) (am_vw_cat al sb h3.1) (am_vw_cat al sb h4.1) (kk lk hL (am_fa h1.1 (am_fa h3.1 (am_fa h4.1 (am_fa h1.1 h4.2)))))
  | dup2 =>
    obtain ⟨a, b, r, rfl, h2⟩ := am_d2F_some he
    cases h2
    have h1 := List.forall_mem_cons.mp hs
    have h3 := List.forall_mem_cons.mp h1.2
    exact lv_dup2_11 hx hb hd (am_vw_cat al sb h1.1) (am_vw_cat al sb h3.1) (kk lk hL (am_fa h1.1 (am_fa h3.1 hs)))
  | _ => cases he
theorem am_J1 {q : Nat × List Value} {f : Int32 → Nat} (he : (match st with
    | .int x :: r => some (f x, r)
    | _ => none) = some q) : ∃ x r, st = .int x :: r ∧ q = (f x, r) := by
  split at he
  · exact ⟨_, _, rfl, (Option.some.inj he).symm⟩
  · cases he
theorem am_J2 {q : Nat × List Value} {f : Int32 → Int32 → Nat} (he : (match st with
    | .int y :: .int x :: r => some (f x y, r)
    | _ => none) = some q) : ∃ x y r, st = .int y :: .int x :: r ∧ q = (f x y, r) := by
  split at he
  · exact ⟨_, _, _, rfl, (Option.some.inj he).symm⟩
  · cases he
theorem am_lsw_pos {pc : Nat} {d k : Int} (hd : 0 ≤ (pc : Int) + d) : ∀ (ps : List (Int × Int)), ps.all (fun q => decide (0 ≤ (pc : Int) + q.2)) = true → 0 ≤ (pc : Int) + Op.lookupswitch.offset ps d k
  | [], _ => by rw [Op.lookupswitch.offset_nil]; exact hd
  | (a, o) :: r, h => by
    rw [List.all_cons, Bool.and_eq_true] at h
    rw [Op.lookupswitch.offset_cons]
    split
    · exact of_decide_eq_true h.1
    · exact am_lsw_pos hd r h.2
theorem am_simJ {len pc' : Nat} (hx : p.tables.exec = Jvm.exec) (hb : c.code = cc) (hd : decode cc pc = .ok (i, len)) (hlen : am_len i = 0 ∨ am_len i = len) (hbd : am_bd nL pc i = true) (he : am_J i pc st = some (pc', st')) (hs : ∀ v ∈ st, am_vw n v)
    (kk : (∀ v ∈ st', am_vw n v) → W p l e R s m args below meth c H locs cells slots Q (F0 m pc' lk (st'.map (am_rn al sb)))) : W p l e R s m args below meth c H locs cells slots Q (F0 m pc lk (st.map (am_rn al sb))) := by
  cases i with
  | goto off =>
    have he : some (am_jmp pc off, st) = some (pc', st') := he
    cases he
    have h3 : 3 = len := by rcases hlen with h | h; cases h; exact h
    subst h3
    exact lv_goto hx hb hd (Int.toNat_of_nonneg (of_decide_eq_true hbd)).symm (kk hs)
  | ifCond cd off =>
    obtain ⟨x, r, rfl, h2⟩ := am_J1 he
    cases h2
    have h3 : 3 = len := by rcases hlen with h | h; cases h; exact h
    subst h3
    have ht : (pc : Int) + off = ((am_jmp pc off : Nat) : Int) := (Int.toNat_of_nonneg (of_decide_eq_true hbd)).symm
    have kk := kk (List.forall_mem_cons.mp hs).2
    cases cd with
    | eq => exact lv_if_eq hx hb hd ht (fun q => by rw [am_if, if_pos q] at kk; exact kk) (fun q => by rw [am_if, if_neg q] at kk; exact kk)
    | ne => exact lv_if_ne hx hb hd ht (fun q => by rw [am_if, if_pos q] at kk; exact kk) (fun q => by rw [am_if, if_neg (fun z => z q)] at kk; exact kk)
    | lt => exact lv_if_lt hx hb hd ht (fun q => by rw [am_if, if_pos q] at kk; exact kk) (fun q => by rw [am_if, if_neg q] at kk; exact kk)
    | ge => exact lv_if_ge hx hb hd ht (fun q => by rw [am_if, if_pos q] at kk; exact kk) (fun q => by rw [am_if, if_neg q] at kk; exact kk)
    | gt => exact lv_if_gt hx hb hd ht (fun q => by rw [am_if, if_pos q] at kk; exact kk) (fun q => by rw [am_if, if_neg q] at kk; exact kk)
    | le => exact lv_if_le hx hb hd ht (fun q => by rw [am_if, if_pos q] at kk; exact kk) (fun q => by rw [am_if, if_neg q] at kk; exact kk)
  | if_icmp cd off =>
    obtain ⟨x, y, r, rfl, h2⟩ := am_J2 he
    cases h2
    have h3 : 3 = len := by rcases hlen with h | h; cases h; exact h
    subst h3
    have ht : (pc : Int) + off = ((am_jmp pc off : Nat) : Int) := (Int.toNat_of_nonneg (of_decide_eq_true hbd)).symm
    have kk := kk (List.forall_mem_cons.mp (List.forall_mem_cons.mp hs).2).2
    cases cd with
    | eq => exact lv_icmp_eq hx hb hd ht (fun q => by rw [am_if, if_pos q] at kk; exact kk) (fun q => by rw [am_if, if_neg q] at kk; exact kk)
    | ne => exact lv_icmp_ne hx hb hd ht (fun q => by rw [am_if, if_pos q] at kk; exact kk) (fun q => by rw [am_if, if_neg (fun z => z q)] at kk; exact kk)
    | lt => exact lv_icmp_lt hx hb hd ht (fun q => by rw [am_if, if_pos q] at kk; exact kk) (fun q => by rw [am_if, if_neg q] at kk; exact kk)
    | ge => exact lv_icmp_ge hx hb hd ht (fun q => by rw [am_if, if_pos q] at kk; exact kk) (fun q => by rw [am_if, if_neg q] at kk; exact kk)
    | gt => exact lv_icmp_gt hx hb hd ht (fun q => by rw [am_if, if_pos q] at kk; exact kk) (fun q => by rw [am_if, if_neg q] at kk; exact kk)
    | le => exact lv_icmp_le hx hb hd ht (fun q => by rw [am_if, if_pos q] at kk; exact kk) (fun q => by rw [am_if, if_neg q] at kk; exact kk)
  | tableswitch d lo hi offs =>
    obtain ⟨x, r, rfl, h2⟩ := am_J1 he
    cases h2
    have kk := kk (List.forall_mem_cons.mp hs).2
    unfold am_bd at hbd
    rw [Bool.and_eq_true, Bool.and_eq_true] at hbd
    obtain ⟨b1, b2, b3⟩ := hbd
    have b1 := of_decide_eq_true b1
    have b2 := of_decide_eq_true b2
    by_cases hc : x.toInt < lo ∨ hi < x.toInt
    · rw [am_tsw, if_pos hc] at kk
      exact lv_tableOut hx hb hd hc (Int.toNat_of_nonneg b1).symm kk
    · rw [am_tsw, if_neg hc] at kk
      have hlt : (x.toInt - lo).toNat < offs.size := by omega
      have ho : offs[(x.toInt - lo).toNat]? = some offs[(x.toInt - lo).toNat] := Array.getElem?_eq_getElem hlt
      rw [ho] at kk
      have hp : 0 ≤ (pc : Int) + offs[(x.toInt - lo).toNat] := of_decide_eq_true (List.all_eq_true.mp b3 _ (by simp))
      exact lv_tableIn hx hb hd (fun q => hc (Or.inl q)) (fun q => hc (Or.inr q)) ho (Int.toNat_of_nonneg hp).symm kk
  | lookupswitch d ps =>
    obtain ⟨x, r, rfl, h2⟩ := am_J1 he
    cases h2
    have kk := kk (List.forall_mem_cons.mp hs).2
    unfold am_bd at hbd
    rw [Bool.and_eq_true, Bool.and_eq_true] at hbd
    obtain ⟨b1, b2, b3⟩ := hbd
    have b1 := of_decide_eq_true b1
    exact lv_lookup hx hb hd b2 rfl (Int.toNat_of_nonneg (am_lsw_pos b1 _ b3)).symm kk
  | _ => cases he
end AMP
end
section
/-! The small machine's cells as the kit's world. -/
def am_fo (al : Nat → Nat) (x : Int32) : Option (Option Nat) → Value
  | none => .int x
  | some none => .null
  | some (some j) => .ref (al j)
def am_fv (al : Nat → Nat) (s : am_S) (i : Nat) (fl : List (Option (Option Nat))) : List Value := fl.mapIdx (fun k o => am_fo al (s i k) o)
def am_rf (al : Nat → Nat) (rs : List (Option Nat)) : Nat → Option Nat := fun j => ((rs[j]?).join).map al
def am_ex (cy : Nat → ClassId) (al : Nat → Nat) (s : am_S) (i : Nat) : am_D → va_E
  | .inl (t, n, none) => .inl (cy t, n, .inl (s i))
  | .inl (t, n, some rs) => .inl (cy t, n, .inr (.inr (.inr (.inr (am_rf al rs)))))
  | .inr (c, fl) => .inr (c, am_fv al s i fl)
def am_wl (cy : Nat → ClassId) (al : Nat → Nat) (h : am_H) : va_W := h.1.mapIdx (fun i d => (al i, am_ex cy al h.2 i d))
def am_dw (n : Nat) : am_D → Prop
  | .inl (t, k, some rs) => rs.length = k ∧ (∀ (j r : Nat), rs[j]? = some (some r) → r < n) ∧ ∃ ty, am_ty t = some ty ∧ ty.isReference = true
  | .inl (_, _, none) => True
  | .inr (_, fl) => ∀ (k j : Nat), fl[k]? = some (some (some j)) → j < n
def am_sz : am_D → Nat
  | .inl (_, k, _) => k
  | .inr (_, fl) => fl.length
def am_slt (tp : List am_D) : Nat := (tp.map am_sz).sum
theorem am_dw_up {n n' : Nat} (hn : n ≤ n') : ∀ {d : am_D}, am_dw n d → am_dw n' d
  | .inl (_, _, some _), h => ⟨h.1, fun j r e => Nat.lt_of_lt_of_le (h.2.1 j r e) hn, h.2.2⟩
  | .inl (_, _, none), _ => trivial
  | .inr (_, _), h => fun k j e => Nat.lt_of_lt_of_le (h k j e) hn
theorem am_wl_at {cy : Nat → ClassId} {al : Nat → Nat} {h : am_H} {i : Nat} {d : am_D} (hd : h.1[i]? = some d) : (am_wl cy al h)[i]? = some (al i, am_ex cy al h.2 i d) := by
  unfold am_wl
  rw [List.getElem?_mapIdx, hd]
  rfl
theorem am_wl_len {cy : Nat → ClassId} {al : Nat → Nat} {h : am_H} : (am_wl cy al h).length = h.1.length := by simp [am_wl]
theorem am_wl_mem {cy : Nat → ClassId} {al : Nat → Nat} {h : am_H} {i : Nat} {q : Nat × va_E} (hq : (am_wl cy al h)[i]? = some q) : ∃ d, h.1[i]? = some d ∧ q = (al i, am_ex cy al h.2 i d) := by
  unfold am_wl at hq
  rw [List.getElem?_mapIdx] at hq
  cases hd : h.1[i]? with
  | none => rw [hd] at hq; cases hq
  | some d => rw [hd] at hq; exact ⟨d, rfl, (Option.some.inj hq).symm⟩
theorem am_ex_eq {cy : Nat → ClassId} {al al' : Nat → Nat} {s s' : am_S} {i n : Nat} (hs : s' i = s i) (ha : ∀ j, j < n → al' j = al j) : ∀ {d : am_D}, am_dw n d → am_ex cy al' s' i d = am_ex cy al s i d
  | .inl (t, k, none), _ => by simp only [am_ex, hs]
  | .inl (t, k, some rs), h => by
    have e : am_rf al' rs = am_rf al rs := by
      funext j
      unfold am_rf
      cases hj : rs[j]? with
      | none => rfl
      | some o => cases o with
        | none => rfl
        | some r => exact congrArg some (ha r (h.2.1 j r hj))
    simp only [am_ex, e]
  | .inr (c, fl), h => by
    have e : am_fv al' s' i fl = am_fv al s i fl := by
      unfold am_fv
      apply List.ext_getElem?
      intro k
      rw [List.getElem?_mapIdx, List.getElem?_mapIdx]
      cases hk : fl[k]? with
      | none => rfl
      | some o => cases o with
        | none => simp [am_fo, hs]
        | some o => cases o with
          | none => rfl
          | some j => simp [am_fo, ha j (h k j hk)]
    simp only [am_ex, e]
theorem am_wl_set {cy : Nat → ClassId} {al : Nat → Nat} {h h' : am_H} {i : Nat} {d : am_D} {x : va_E} (hd : h.1[i]? = some d) (h1 : ∀ j : Nat, j ≠ i → h'.1[j]? = h.1[j]?) (h2 : ∀ j : Nat, j ≠ i → h'.2 j = h.2 j) {d' : am_D} (hd' : h'.1[i]? = some d') (hx : am_ex cy al h'.2 i d' = x) (hw : ∀ (j : Nat) (d : am_D), h.1[j]? = some d → am_dw h.1.length d) : am_wl cy al h' = (am_wl cy al h).set i (al i, x) := by
  apply List.ext_getElem?
  intro j
  rw [List.getElem?_set]
  by_cases hj : i = j
  · subst hj
    have hl : i < (am_wl cy al h).length := by rw [am_wl_len]; exact (List.getElem?_eq_some_iff.mp hd).1
    rw [if_pos rfl, if_pos hl, am_wl_at hd', hx]
  · rw [if_neg hj]
    unfold am_wl
    rw [List.getElem?_mapIdx, List.getElem?_mapIdx, h1 j (Ne.symm hj)]
    cases hd2 : h.1[j]? with
    | none => rfl
    | some d2 => exact congrArg some (by show (al j, am_ex cy al h'.2 j d2) = (al j, am_ex cy al h.2 j d2); rw [am_ex_eq (h2 j (Ne.symm hj)) (fun _ _ => rfl) (hw j d2 hd2)])
theorem am_fv_at {al : Nat → Nat} {s : am_S} {i k : Nat} {fl : List (Option (Option Nat))} {o : Option (Option Nat)} (hk : fl[k]? = some o) : (am_fv al s i fl)[k]? = some (am_fo al (s i k) o) := by
  unfold am_fv
  rw [List.getElem?_mapIdx, hk]
  rfl
theorem am_fv_wr {al : Nat → Nat} {s : am_S} {i k : Nat} {v : Int32} {fl : List (Option (Option Nat))} (hk : fl[k]? = some none) : am_fv al (am_wr s i k v) i fl = (am_fv al s i fl).set k (.int v) := by
  apply List.ext_getElem?
  intro j
  rw [List.getElem?_set]
  have hl : k < (am_fv al s i fl).length := by simp only [am_fv, List.length_mapIdx]; exact (List.getElem?_eq_some_iff.mp hk).1
  by_cases hj : k = j
  · subst hj
    rw [if_pos rfl, if_pos hl, am_fv_at hk, am_wr_self]
    rfl
  · rw [if_neg hj]
    unfold am_fv
    rw [List.getElem?_mapIdx, List.getElem?_mapIdx, am_wr_col s (Ne.symm hj)]
theorem am_fv_set {al : Nat → Nat} {s : am_S} {i k j : Nat} {fl : List (Option (Option Nat))} {o : Option (Option Nat)} (hk : fl[k]? = some o) : am_fv al s i (fl.set k (some (some j))) = (am_fv al s i fl).set k (.ref (al j)) := by
  apply List.ext_getElem?
  intro q
  rw [List.getElem?_set]
  have hl0 : k < fl.length := (List.getElem?_eq_some_iff.mp hk).1
  have hl : k < (am_fv al s i fl).length := by simp only [am_fv, List.length_mapIdx]; exact hl0
  unfold am_fv at hl ⊢
  rw [List.getElem?_mapIdx, List.getElem?_mapIdx, List.getElem?_set]
  by_cases hj : k = q
  · subst hj
    rw [if_pos rfl, if_pos hl0, if_pos rfl, if_pos hl]
    rfl
  · rw [if_neg hj, if_neg hj]
theorem am_rf_set {al : Nat → Nat} {rs : List (Option Nat)} {k j : Nat} (hk : k < rs.length) : am_rf al (rs.set k (some j)) = va_up (am_rf al rs) k (some (al j)) := by
  funext q
  unfold am_rf va_up
  rw [List.getElem?_set]
  by_cases hq : q = k
  · subst hq
    rw [if_pos rfl, if_pos hk, if_pos rfl]
    rfl
  · rw [if_neg (Ne.symm hq), if_neg hq]
/-- what holds between a state of the small machine and one of the kit's -/
def am_I (A : Nat → Prop) (D : va_G) (cl : List vw_C) (cy : Nat → ClassId) (H0 : Heap) (al : Nat → Nat) (h : am_H) (H : Heap) (locs : List Loc) : Prop :=
  va_P D cl (am_wl cy al h) H ∧ va_D A (am_wl cy al h) ∧ va_S A H0 H locs ∧ (∀ (i : Nat) (d : am_D), h.1[i]? = some d → am_dw h.1.length d) ∧ ∀ i k : Nat, h.1.length ≤ i → h.2 i k = 0
section AMW
variable {p : Program} {l : Launch} {e : Env} {R : Room} {s : State} {m : MethodId} {args : Array Value} {below : List Frame} {meth : Method} {c : Code} {H : Heap} {locs : List Loc} {cells slots : Nat} {Q : State → Prop}
variable {cc : ByteArray} {pc : Nat} {lk : Array Slot} {ls st rest : List Value} {al : Nat → Nat} {sb nL : Nat} {A : Nat → Prop} {D : va_G} {cl : List vw_C} {cy : Nat → ClassId} {tys : List (ClassId × FieldType)} {h h' : am_H}
theorem am_sim_ld {t a : Nat} {x v : Int32} (hx : p.tables.exec = Jvm.exec) (hb : c.code = cc) (hK : va_K D cl tys s) (hty : ∀ t ty, am_ty t = some ty → tys[t]? = some (cy t, ty)) (hI : am_I A D cl cy s.heap al h H locs) (he : am_ld h t a x = some v)
    (hdg : t = 0 ∧ am_ty 0 = some .int ∧ decode cc pc = .ok (.iaload, 1) ∨ t = 1 ∧ am_ty 1 = some .boolean ∧ decode cc pc = .ok (.baload, 1))
    (kk : W p l e R s m args below meth c H locs cells slots Q (F0 m (pc + 1) lk (.int v :: rest))) : W p l e R s m args below meth c H locs cells slots Q (F0 m pc lk (.int x :: .ref (al a) :: rest)) := by
  unfold am_ld at he
  split at he
  · rename_i t' n hd
    split at he
    · rename_i hc
      obtain ⟨rfl, hin⟩ := hc
      cases he
      have ha := am_wl_at (cy := cy) (al := al) hd
      rcases hdg with ⟨rfl, h1, h2⟩ | ⟨rfl, h1, h2⟩
      · exact va_iald hx hb hK hI.1 a 0 ha (hty 0 _ h1) hin h2 kk
      · exact va_zald hx hb hK hI.1 a 1 ha (hty 1 _ h1) hin h2 kk
    · cases he
  · cases he
theorem am_one_nar {v : Int32} (h : v = 0 ∨ v = 1) : v &&& 1 = v := by rcases h with rfl | rfl <;> decide
theorem am_I_wr {i k : Nat} {d : am_D} {x : va_E} {v : Int32} {H1 : Heap} {locs1 : List Loc} (hI : am_I A D cl cy s.heap al h H locs) (hd : h.1[i]? = some d) (hx : am_ex cy al (am_wr h.2 i k v) i d = x)
    (hP : va_P D cl ((am_wl cy al h).set i (al i, x)) H1) (hD : va_D A ((am_wl cy al h).set i (al i, x))) (hS : va_S A s.heap H1 locs1) : am_I A D cl cy s.heap al (h.1, am_wr h.2 i k v) H1 locs1 := by
  obtain ⟨-, -, -, hw, hz⟩ := hI
  have e := am_wl_set (h' := (h.1, am_wr h.2 i k v)) (cy := cy) (al := al) hd (fun _ _ => rfl) (fun j hj => am_wr_row h.2 hj) hd hx hw
  refine ⟨by rw [e]; exact hP, by rw [e]; exact hD, hS, hw, fun j q hj => ?_⟩
  have hl := (List.getElem?_eq_some_iff.mp hd).1
  show am_wr h.2 i k v j q = 0
  rw [am_wr_row h.2 (by have : h.1.length ≤ j := hj; omega)]
  exact hz j q hj
theorem am_sim_sd {t a : Nat} {x v : Int32} (hx : p.tables.exec = Jvm.exec) (hb : c.code = cc) (hK : va_K D cl tys s) (hty : ∀ t ty, am_ty t = some ty → tys[t]? = some (cy t, ty)) (hI : am_I A D cl cy s.heap al h H locs) (he : am_sd h t a x v = some h')
    (hdg : t = 0 ∧ am_ty 0 = some .int ∧ decode cc pc = .ok (.iastore, 1) ∨ t = 1 ∧ am_ty 1 = some .boolean ∧ decode cc pc = .ok (.bastore, 1))
    (kk : ∀ (H1 : Heap) (locs1 : List Loc), am_I A D cl cy s.heap al h' H1 locs1 → h'.1 = h.1 → W p l e R s m args below meth c H1 locs1 cells slots Q (F0 m (pc + 1) lk rest)) : W p l e R s m args below meth c H locs cells slots Q (F0 m pc lk (.int v :: .int x :: .ref (al a) :: rest)) := by
  unfold am_sd at he
  split at he
  · rename_i t' n hd
    split at he
    · rename_i hc
      obtain ⟨rfl, hin, hv⟩ := hc
      cases he
      have ha := am_wl_at (cy := cy) (al := al) hd
      rcases hdg with ⟨rfl, h1, h2⟩ | ⟨rfl, h1, h2⟩
      · exact va_iast hx hb hK hI.1 hI.2.1 hI.2.2.1 a 0 ha (hty 0 _ h1) hin h2 (fun H1 locs1 hP hD hS => kk H1 locs1 (am_I_wr hI hd (by simp only [am_ex, am_wr_upd]) hP hD hS) rfl)
      · have hn : vp_nar .boolean v = v := by
          show v &&& 1 = v
          exact am_one_nar (by rcases hv with h | h; cases h; exact h)
        refine va_zast hx hb hK hI.1 hI.2.1 hI.2.2.1 a 1 ha (hty 1 _ h1) hin h2 (fun H1 locs1 hP hD hS => ?_)
        rw [hn] at hP hD
        exact kk H1 locs1 (am_I_wr hI hd (by simp only [am_ex, am_wr_upd]) hP hD hS) rfl
    · cases he
  · cases he
theorem am_sim_la {a j : Nat} {x : Int32} (hx : p.tables.exec = Jvm.exec) (hb : c.code = cc) (hK : va_K D cl tys s) (hty : ∀ t ty, am_ty t = some ty → tys[t]? = some (cy t, ty)) (hI : am_I A D cl cy s.heap al h H locs) (he : am_la h a x = some j) (hdg : decode cc pc = .ok (.aaload, 1))
    (kk : j < h.1.length → W p l e R s m args below meth c H locs cells slots Q (F0 m (pc + 1) lk (.ref (al j) :: rest))) : W p l e R s m args below meth c H locs cells slots Q (F0 m pc lk (.int x :: .ref (al a) :: rest)) := by
  unfold am_la at he
  split at he
  · rename_i t n rs hd
    split at he
    · cases he
    · rename_i hin
      have ha := am_wl_at (cy := cy) (al := al) hd
      have hin : vp_in x n := hin
      obtain ⟨w1, w2, ty, w3, w4⟩ := hI.2.2.2.1 a _ hd
      have hlt : x.toNatClampNeg < n := Nat.not_le.mp fun q => hin (Or.inr q)
      have hj : rs[x.toNatClampNeg]? = some (some j) := by
        cases hq : rs[x.toNatClampNeg]? with
        | none => rw [hq] at he; cases he
        | some o => rw [hq] at he; exact congrArg some he
      have hf : am_rf al rs x.toNatClampNeg = some (al j) := by
        unfold am_rf
        rw [hj]
        rfl
      exact W.aald (v := .ref (al j)) (ty := ty) hx hb (hI.1 a _ ha) ((hK.2 t _ (hty t ty w3)).1 n (fun q => va_rf (am_rf al rs q))) w4 (fun q => by cases q) (by show ¬ (x < 0 ∨ (arrV _ _ _).slots.size ≤ _); rw [arrV_size]; exact hin) (by show (arrV _ _ _).slots[_]? = _; rw [arrV_read _ _ hlt, hf]; rfl) rfl rfl hdg (kk (w2 _ _ hj))
  · cases he
end AMW
end
section
/-! The small machine against the kit's machine: fields, new cells. -/
theorem am_slt_set {tp : List am_D} {i : Nat} {d d' : am_D} (hd : tp[i]? = some d) (hs : am_sz d' = am_sz d) : am_slt (tp.set i d') = am_slt tp := by
  unfold am_slt
  congr 1
  apply List.ext_getElem?
  intro j
  rw [List.getElem?_map, List.getElem?_map, List.getElem?_set]
  by_cases hj : i = j
  · subst hj
    rw [if_pos rfl, if_pos (List.getElem?_eq_some_iff.mp hd).1, hd]
    simp [hs]
  · rw [if_neg hj]
section AMX
variable {p : Program} {l : Launch} {e : Env} {R : Room} {s : State} {m : MethodId} {args : Array Value} {below : List Frame} {meth : Method} {c : Code} {H : Heap} {locs : List Loc} {cells slots : Nat} {Q : State → Prop}
variable {cc : ByteArray} {pc : Nat} {lk : Array Slot} {ls st rest : List Value} {al : Nat → Nat} {sb nL : Nat} {A : Nat → Prop} {D : va_G} {cl : List vw_C} {cy : Nat → ClassId} {tys : List (ClassId × FieldType)} {h h' : am_H} {Ts : List Cond} {own : String}
def am_lk (own : String) (args : Array Value) (s : State) (x : Nat) (C nm d : String) : Prop := (Cond.fieldLink own x C nm d).before args s = true ∨ ∃ host, (Cond.fieldLinkNest own x C nm d host).before args s = true
def am_gOK (cl : List vw_C) (Ts : List Cond) (own : String) (args : Array Value) (s : State) (x ci k : Nat) : Prop :=
  ∃ (C : String) (T : u_T) (Nf : Nat), cl[ci]? = some (C, T, Nf) ∧ k < Nf ∧ (∀ w ∈ u_ws C T Nf, w ∈ Ts) ∧ (T k).1 = C ∧ am_lk own args s x C (T k).2.1 (T k).2.2.1
def am_pOK (cl : List vw_C) (Ts : List Cond) (own : String) (args : Array Value) (s : State) (meth : Method) (x ci k kd : Nat) : Prop :=
  ∃ (C : String) (T : u_T) (Nf : Nat) (ty : Nat → FieldType), cl[ci]? = some (C, T, Nf) ∧ k < Nf ∧ (∀ w ∈ u_ws C T Nf, w ∈ Ts) ∧ (T k).1 = C ∧ (∀ k, k < Nf → parseFieldDescriptor (T k).2.2.1 = some (ty k)) ∧ (∀ a, a < Nf → ∀ b, b < Nf → a ≠ b → (T a).2.1 ≠ (T b).2.1) ∧
    (kd = 0 ∧ ty k = .int ∨ kd = 1 ∧ ty k = .boolean ∨ kd = 2 ∧ (ty k).isReference = true) ∧
    ((T k).2.2.2 = false ∧ am_lk own args s x C (T k).2.1 (T k).2.2.1 ∨ (T k).2.2.2 = true ∧ meth.name = "<init>" ∧ C = own ∧ (Cond.fieldLink own x C (T k).2.1 (T k).2.2.1).before args s = true)
theorem am_sim_gf {a x ci k : Nat} {v : Value} (hx : p.tables.exec = Jvm.exec) (hb : c.code = cc) (hts : ∀ w ∈ Ts, w.before args s = true) (hown : s.vm.findClass own = some m.cls) (hK : va_K D cl tys s) (hI : am_I A D cl cy s.heap al h H locs) (hg : am_gOK cl Ts own args s x ci k) (he : am_gf h a ci k = some v) (hdg : decode cc pc = .ok (.getfield x, 3))
    (kk : am_vw h.1.length v → W p l e R s m args below meth c H locs cells slots Q (F0 m (pc + 3) lk (am_rn al sb v :: rest))) : W p l e R s m args below meth c H locs cells slots Q (F0 m pc lk (.ref (al a) :: rest)) := by
  obtain ⟨C, T, Nf, h1, h2, h3, h4, h5⟩ := hg
  unfold am_gf at he
  split at he
  · rename_i q hd
    obtain ⟨c0, fl⟩ := q
    split at he
    · rename_i hc
      have hc : c0 = ci := hc
      subst hc
      have ha := am_wl_at (cy := cy) (al := al) hd
      have hw := hI.2.2.2.1 a _ hd
      have fin : ∀ o : Option (Option Nat), fl[k]? = some o → am_rn al sb v = am_fo al (h.2 a k) o → am_vw h.1.length v → W p l e R s m args below meth c H locs cells slots Q (F0 m pc lk (.ref (al a) :: rest)) := by
        intro o ho hv hvw
        have kk := kk hvw
        rw [hv] at kk
        rcases h5 with h5 | ⟨host, h5⟩
        · exact va_get hx hb hts h3 hown hK hI.1 a ha h1 k h2 h5 (fun _ z => by rw [← h4]; exact z) (am_fv_at ho) hdg kk
        · exact va_getN hx hb hts h3 hown hK hI.1 a ha h1 k h2 h5 (fun _ z => by rw [← h4]; exact z) (am_fv_at ho) hdg kk
      dsimp only at he
      cases ho : fl[k]? with
      | none => rw [ho] at he; cases he
      | some o =>
        rw [ho] at he
        cases o with
        | none => cases he; exact fin none ho rfl trivial
        | some o =>
          cases o with
          | none => cases he; exact fin (some none) ho rfl trivial
          | some j => cases he; exact fin (some (some j)) ho rfl (hw k j ho)
    · cases he
  · cases he
theorem am_I_set {i : Nat} {d d' : am_D} {x : va_E} {H1 : Heap} {locs1 : List Loc} (hI : am_I A D cl cy s.heap al h H locs) (hd : h.1[i]? = some d) (hx : am_ex cy al h.2 i d' = x) (hw' : am_dw h.1.length d')
    (hP : va_P D cl ((am_wl cy al h).set i (al i, x)) H1) (hD : va_D A ((am_wl cy al h).set i (al i, x))) (hS : va_S A s.heap H1 locs1) : am_I A D cl cy s.heap al (h.1.set i d', h.2) H1 locs1 := by
  obtain ⟨-, -, -, hw, hz⟩ := hI
  have hl := (List.getElem?_eq_some_iff.mp hd).1
  have hd2 : (h.1.set i d')[i]? = some d' := by rw [List.getElem?_set, if_pos rfl, if_pos hl]
  have e := am_wl_set (h' := (h.1.set i d', h.2)) (cy := cy) (al := al) hd (fun j hj => by show (h.1.set i d')[j]? = _; rw [List.getElem?_set, if_neg (Ne.symm hj)]) (fun _ _ => rfl) hd2 hx hw
  refine ⟨by rw [e]; exact hP, by rw [e]; exact hD, hS, fun j q hj => ?_, fun j q hj => hz j q (by have : (h.1.set i d').length ≤ j := hj; rw [List.length_set] at this; exact this)⟩
  show am_dw (h.1.set i d').length q
  rw [List.length_set]
  have hj : (h.1.set i d')[j]? = some q := hj
  rw [List.getElem?_set] at hj
  by_cases hij : i = j
  · rw [if_pos hij, if_pos hl] at hj
    cases hj
    exact hw'
  · rw [if_neg hij] at hj
    exact hw j q hj
theorem am_sim_pf {a x ci k kd : Nat} {v : Value} (hx : p.tables.exec = Jvm.exec) (hb : c.code = cc) (hts : ∀ w ∈ Ts, w.before args s = true) (hown : s.vm.findClass own = some m.cls) (hK : va_K D cl tys s) (hI : am_I A D cl cy s.heap al h H locs) (hg : am_pOK cl Ts own args s meth x ci k kd) (he : am_pf h a ci k kd v = some h') (hv : am_vw h.1.length v) (hdg : decode cc pc = .ok (.putfield x, 3))
    (kk : ∀ (H1 : Heap) (locs1 : List Loc), am_I A D cl cy s.heap al h' H1 locs1 → h'.1.length = h.1.length → am_slt h'.1 = am_slt h.1 → W p l e R s m args below meth c H1 locs1 cells slots Q (F0 m (pc + 3) lk rest)) : W p l e R s m args below meth c H locs cells slots Q (F0 m pc lk (am_rn al sb v :: .ref (al a) :: rest)) := by
  obtain ⟨C, T, Nf, ty, h1, h2, h3, h4, h5, h6, h7, h8⟩ := hg
  unfold am_pf at he
  split at he
  · rename_i q hd
    obtain ⟨c0, fl⟩ := q
    split at he
    · rename_i hc
      have hc : c0 = ci := hc
      subst hc
      have ha := am_wl_at (cy := cy) (al := al) hd
      have hw := hI.2.2.2.1 a _ hd
      have fin : ∀ o : Option (Option Nat), fl[k]? = some o → narrow (ty k) (am_rn al sb v) = am_rn al sb v → fits (ty k) (am_rn al sb v) = true →
          (∀ (H1 : Heap) (locs1 : List Loc), va_P D cl ((am_wl cy al h).set a (al a, .inr (c0, (am_fv al h.2 a fl).set k (am_rn al sb v)))) H1 → va_D A ((am_wl cy al h).set a (al a, .inr (c0, (am_fv al h.2 a fl).set k (am_rn al sb v)))) → va_S A s.heap H1 locs1 → W p l e R s m args below meth c H1 locs1 cells slots Q (F0 m (pc + 3) lk rest)) →
          W p l e R s m args below meth c H locs cells slots Q (F0 m pc lk (am_rn al sb v :: .ref (al a) :: rest)) := by
        intro o ho hn hf kk
        have hl : k < (am_fv al h.2 a fl).length := by simp only [am_fv, List.length_mapIdx]; exact (List.getElem?_eq_some_iff.mp ho).1
        rcases h8 with ⟨g1, g2⟩ | ⟨g1, g2, g3, g4⟩
        · rcases g2 with g2 | ⟨host, g2⟩
          · exact va_put hx hb hts h3 ty h5 h6 hown hK hI.1 hI.2.1 hI.2.2.1 a ha h1 k h2 g2 (fun _ z => by rw [← h4]; exact z) g1 (h5 k h2) hn hf hl hdg kk
          · exact va_putN hx hb hts h3 ty h5 h6 hown hK hI.1 hI.2.1 hI.2.2.1 a ha h1 k h2 g2 (fun _ z => by rw [← h4]; exact z) g1 (h5 k h2) hn hf hl hdg kk
        · exact va_putF hx hb hts h3 ty h5 h6 hown hK hI.1 hI.2.1 hI.2.2.1 a ha h1 k h2 g4 (fun _ z => by rw [← h4]; exact z) g1 g2 (h4.trans g3) (h5 k h2) hn hf hl hdg kk
      dsimp only at he
      split at he
      · rename_i y ho
        cases he
        have ht : ty k = .int := by
          rcases h7 with ⟨_, h7⟩ | ⟨h7, _⟩ | ⟨h7, _⟩
          · exact h7
          · cases h7
          · cases h7
        refine fin none ho (by rw [ht]; rfl) (by rw [ht]; rfl) (fun H1 locs1 hP hD hS => kk H1 locs1 (am_I_wr hI hd ?_ hP hD hS) rfl rfl)
        show (Sum.inr (c0, am_fv al (am_wr h.2 a k y) a fl) : va_E) = _
        rw [am_fv_wr ho]
        rfl
      · rename_i y ho
        split at he
        · rename_i hy
          cases he
          have ht : ty k = .boolean := by
            rcases h7 with ⟨h7, _⟩ | ⟨_, h7⟩ | ⟨h7, _⟩
            · cases h7
            · exact h7
            · cases h7
          refine fin none ho (by rw [ht]; show Value.int (y &&& 1) = .int y; rw [am_one_nar hy]) (by rw [ht]; show (y == 0 || y == 1) = true; rcases hy with rfl | rfl <;> rfl) (fun H1 locs1 hP hD hS => kk H1 locs1 (am_I_wr hI hd ?_ hP hD hS) rfl rfl)
          show (Sum.inr (c0, am_fv al (am_wr h.2 a k y) a fl) : va_E) = _
          rw [am_fv_wr ho]
          rfl
        · cases he
      · rename_i o j ho
        cases he
        have ht : (ty k).isReference = true := by
          rcases h7 with ⟨h7, _⟩ | ⟨h7, _⟩ | ⟨_, h7⟩
          · cases h7
          · cases h7
          · exact h7
        have hl := (List.getElem?_eq_some_iff.mp hd).1
        refine fin (some o) ho (by show narrow (ty k) (.ref (al j)) = .ref (al j); cases hk : ty k <;> rw [hk] at ht <;> first | rfl | cases ht) (by show fits (ty k) (.ref (al j)) = true; cases hk : ty k <;> rw [hk] at ht <;> first | rfl | cases ht)
          (fun H1 locs1 hP hD hS => kk H1 locs1 (am_I_set hI hd ?_ ?_ hP hD hS) (by show (h.1.set a _).length = _; rw [List.length_set]) ?_)
        · show (Sum.inr (c0, am_fv al h.2 a (fl.set k (some (some j)))) : va_E) = _
          rw [am_fv_set ho]
          rfl
        · intro k2 j2 hj
          rw [List.getElem?_set] at hj
          by_cases hk2 : k = k2
          · rw [if_pos hk2, if_pos (List.getElem?_eq_some_iff.mp ho).1] at hj
            cases hj
            exact hv
          · rw [if_neg hk2] at hj
            exact hw k2 j2 hj
        · show am_slt (h.1.set a _) = _
          exact am_slt_set hd (by simp [am_sz])
      · cases he
    · cases he
  · cases he
end AMX
end
section
/-! New cells, stores of references, calls. -/
theorem am_wl_app {cy : Nat → ClassId} {al : Nat → Nat} {h : am_H} {d : am_D} {q : Nat} (hw : ∀ (i : Nat) (d : am_D), h.1[i]? = some d → am_dw h.1.length d) : am_wl cy (va_up al h.1.length q) (h.1 ++ [d], h.2) = am_wl cy al h ++ [(q, am_ex cy (va_up al h.1.length q) h.2 h.1.length d)] := by
  apply List.ext_getElem?
  intro j
  have e0 : (am_wl cy (va_up al h.1.length q) (h.1 ++ [d], h.2))[j]? = ((h.1 ++ [d])[j]?).map (fun d => (va_up al h.1.length q j, am_ex cy (va_up al h.1.length q) h.2 j d)) := by
    unfold am_wl
    rw [List.getElem?_mapIdx]
  rw [e0]
  by_cases hj : j < h.1.length
  · have hd2 : h.1[j]? = some h.1[j] := List.getElem?_eq_getElem hj
    rw [List.getElem?_append_left hj, List.getElem?_append_left (by rw [am_wl_len]; exact hj), am_wl_at hd2, hd2]
    show some (_, _) = _
    rw [va_up_ne al q (by omega), am_ex_eq rfl (fun i hi => va_up_ne al q (by omega)) (hw j _ hd2)]
  · rw [List.getElem?_append_right (by omega), List.getElem?_append_right (by rw [am_wl_len]; omega), am_wl_len]
    by_cases hk : j = h.1.length
    · subst hk
      rw [Nat.sub_self]
      show some (va_up al h.1.length q h.1.length, _) = _
      rw [va_up_self]
      rfl
    · obtain ⟨k, hk⟩ : ∃ k, j - h.1.length = k + 1 := ⟨j - h.1.length - 1, by omega⟩
      rw [hk]
      rfl
theorem am_slt_app (tp tq : List am_D) : am_slt (tp ++ tq) = am_slt tp + am_slt tq := by simp [am_slt]
section AMN
variable {p : Program} {l : Launch} {e : Env} {R : Room} {s : State} {m : MethodId} {args : Array Value} {below : List Frame} {meth : Method} {c : Code} {H : Heap} {locs : List Loc} {cells slots : Nat} {Q : State → Prop}
variable {cc : ByteArray} {pc : Nat} {lk : Array Slot} {ls st rest : List Value} {al : Nat → Nat} {sb nL : Nat} {A : Nat → Prop} {D : va_G} {cl : List vw_C} {cy : Nat → ClassId} {tys : List (ClassId × FieldType)} {h h' : am_H} {Ts : List Cond} {own : String} {restK : List Value}
theorem am_I_app {q : Nat} {d : am_D} {H1 : Heap} {locs1 : List Loc} (hI : am_I A D cl cy s.heap al h H locs) (hdw : am_dw (h.1.length + 1) d) (hP : va_P D cl (am_wl cy al h ++ [(q, am_ex cy (va_up al h.1.length q) h.2 h.1.length d)]) H1) (hD : va_D A (am_wl cy al h ++ [(q, am_ex cy (va_up al h.1.length q) h.2 h.1.length d)])) (hS : va_S A s.heap H1 locs1) : am_I A D cl cy s.heap (va_up al h.1.length q) (h.1 ++ [d], h.2) H1 locs1 := by
  obtain ⟨-, -, -, hw, hz⟩ := hI
  have e := am_wl_app (cy := cy) (al := al) (d := d) (q := q) hw
  have hl : (h.1 ++ [d]).length = h.1.length + 1 := by simp
  refine ⟨by rw [e]; exact hP, by rw [e]; exact hD, hS, fun j x hj => ?_, fun j k hj => hz j k (by have : (h.1 ++ [d]).length ≤ j := hj; omega)⟩
  show am_dw (h.1 ++ [d]).length x
  rw [hl]
  have hj : (h.1 ++ [d])[j]? = some x := hj
  by_cases hjl : j < h.1.length
  · rw [List.getElem?_append_left hjl] at hj
    exact am_dw_up (Nat.le_succ _) (hw j x hj)
  · rw [List.getElem?_append_right (by omega)] at hj
    have hz2 : j - h.1.length < 1 := (List.getElem?_eq_some_iff.mp hj).1
    rw [show j - h.1.length = 0 by omega] at hj
    cases hj
    exact hdw
def am_nOK (cl : List vw_C) (Ts : List Cond) (own : String) (args : Array Value) (s : State) (x ci : Nat) (fl : List (Option (Option Nat))) : Prop :=
  ∃ (C : String) (T : u_T) (Nf : Nat) (ty : Nat → FieldType), cl[ci]? = some (C, T, Nf) ∧ (∀ w ∈ u_ws C T Nf, w ∈ Ts) ∧ (∀ k, k < Nf → parseFieldDescriptor (T k).2.2.1 = some (ty k)) ∧ (Cond.classLink own x C).before args s = true ∧ (Cond.instantiable C Nf).before args s = true ∧ (Cond.initialized C).before args s = true ∧
    fl.length = Nf ∧ ∀ j, j < Nf → fl[j]? = some none ∧ defaultValue (ty j) = .int 0 ∨ fl[j]? = some (some none) ∧ defaultValue (ty j) = .null
theorem am_sim_new {x ci : Nat} {fl : List (Option (Option Nat))} (hx : p.tables.exec = Jvm.exec) (hb : c.code = cc) (hts : ∀ w ∈ Ts, w.before args s = true) (hown : s.vm.findClass own = some m.cls) (hK : va_K D cl tys s) (hA : ∀ q, s.heap.size ≤ q → A q) (hI : am_I A D cl cy s.heap al h H locs) (hg : am_nOK cl Ts own args s x ci fl) (hcells : cells + 1 ≤ R.cells) (hslots : slots + fl.length ≤ R.slots) (hdg : decode cc pc = .ok (.new x, 3))
    (kk : ∀ (q : Nat) (H1 : Heap), am_I A D cl cy s.heap (va_up al h.1.length q) (h.1 ++ [.inr (ci, fl)], h.2) H1 locs → W p l e R s m args below meth c H1 locs (cells + 1) (slots + fl.length) Q (F0 m (pc + 3) lk (.ref q :: restK))) : W p l e R s m args below meth c H locs cells slots Q (F0 m pc lk restK) := by
  obtain ⟨C, T, Nf, ty, h1, h2, h3, h4, h5, h6, rfl, h8⟩ := hg
  have hfl : ∀ j o, fl[j]? = some o → o = none ∨ o = some none := fun j o ho => by
    rcases h8 j (List.getElem?_eq_some_iff.mp ho).1 with ⟨z, -⟩ | ⟨z, -⟩
    · rw [z] at ho; cases ho; exact Or.inl rfl
    · rw [z] at ho; cases ho; exact Or.inr rfl
  have hfv : ∀ a2 : Nat → Nat, am_fv a2 h.2 h.1.length fl = am_fv (fun _ => 0) (fun _ _ => 0) 0 fl := by
    intro a2
    unfold am_fv
    apply List.ext_getElem?
    intro k
    rw [List.getElem?_mapIdx, List.getElem?_mapIdx]
    cases ho : fl[k]? with
    | none => rfl
    | some o =>
      rcases hfl k o ho with rfl | rfl
      · show some (Value.int (h.2 h.1.length k)) = some (Value.int 0)
        rw [hI.2.2.2.2 _ _ (Nat.le_refl _)]
      · rfl
  refine va_new (ci := ci) (fs := am_fv (fun _ => 0) (fun _ _ => 0) 0 fl) hx hb hts h2 ty h3 hown h4 h5 h6 hK hI.1 hI.2.1 hI.2.2.1 hA h1 (fun j hj => ?_) hcells hslots hdg (fun q H1 hP hD hS => kk q H1 (am_I_app hI ?_ ?_ ?_ hS))
  · unfold vp_V
    rw [List.getD_eq_getElem?_getD]
    rcases h8 j hj with ⟨z, z2⟩ | ⟨z, z2⟩
    · rw [am_fv_at z, z2]; rfl
    · rw [am_fv_at z, z2]; rfl
  · intro k j ho
    rcases hfl k _ ho with z | z <;> cases z
  · show va_P D cl (am_wl cy al h ++ [(q, .inr (ci, am_fv _ h.2 h.1.length fl))]) H1
    rw [hfv]
    exact hP
  · show va_D A (am_wl cy al h ++ [(q, .inr (ci, am_fv _ h.2 h.1.length fl))])
    rw [hfv]
    exact hD
theorem am_sim_newI {t : Nat} {n : Int32} {aty : ArrayType} {fty : FieldType} (hx : p.tables.exec = Jvm.exec) (hb : c.code = cc) (hK : va_K D cl tys s) (hty : ∀ t ty, am_ty t = some ty → tys[t]? = some (cy t, ty)) (hA : ∀ q, s.heap.size ≤ q → A q) (hI : am_I A D cl cy s.heap al h H locs) (hin : ¬ am_out n 1000)
    (hk : t = 0 ∧ aty = .int ∧ fty = .int ∨ t = 1 ∧ aty = .boolean ∧ fty = .boolean) (ht : am_ty t = some fty) (hac : (Cond.arrayClass fty).before args s = true) (hcells : cells + 1 ≤ R.cells) (hslots : slots + n.toNatClampNeg ≤ R.slots) (hdg : decode cc pc = .ok (.newarray aty, 2))
    (kk : ∀ (q : Nat) (H1 : Heap), am_I A D cl cy s.heap (va_up al h.1.length q) (h.1 ++ [.inl (t, n.toNatClampNeg, none)], h.2) H1 locs → W p l e R s m args below meth c H1 locs (cells + 1) (slots + n.toNatClampNeg) Q (F0 m (pc + 2) lk (.ref q :: restK))) : W p l e R s m args below meth c H locs cells slots Q (F0 m pc lk (.int n :: restK)) := by
  have hf : newarray.typeOf aty = fty := by rcases hk with ⟨-, rfl, rfl⟩ | ⟨-, rfl, rfl⟩ <;> rfl
  have hz : h.2 h.1.length = fun _ => 0 := funext fun k => hI.2.2.2.2 _ _ (Nat.le_refl _)
  have hlt : n.toNatClampNeg < 1000 := Nat.not_le.mp fun q => hin (Or.inr q)
  have hcb : componentBytes fty ≤ 8 := by rcases hk with ⟨-, -, rfl⟩ | ⟨-, -, rfl⟩ <;> decide
  refine va_newa (a0 := (n.toNatClampNeg, .inl (fun _ => 0))) hx hb (by rw [hf]; exact hac) hf hK hI.1 hI.2.1 hI.2.2.1 hA (fun cA => ?_) (fun q => hin (Or.inl q)) rfl ?_ hcells hslots hdg (fun q cA H1 hK1 hP hD hS => kk q H1 ?_)
  · rcases hk with ⟨-, -, rfl⟩ | ⟨-, -, rfl⟩ <;> rfl
  · exact Nat.le_trans (Nat.mul_le_mul (Nat.le_of_lt hlt) hcb) (by decide)
  · have r1 := (hK1.2 tys.length (cA, fty) (by simp)).2
    have r2 := (hK.2 t _ (hty t fty ht)).2
    have ec : cA = cy t := by rcases hk with ⟨-, -, rfl⟩ | ⟨-, -, rfl⟩ <;> exact Option.some.inj (r1.symm.trans r2)
    subst ec
    refine am_I_app hI trivial ?_ ?_ hS
    · show va_P D cl (am_wl cy al h ++ [(q, .inl (cy t, n.toNatClampNeg, .inl (h.2 h.1.length)))]) H1
      rw [hz]
      exact hP
    · show va_D A (am_wl cy al h ++ [(q, .inl (cy t, n.toNatClampNeg, .inl (h.2 h.1.length)))])
      rw [hz]
      exact hD
theorem am_sim_newA {t x : Nat} {n : Int32} {C : String} (hx : p.tables.exec = Jvm.exec) (hb : c.code = cc) (hown : s.vm.findClass own = some m.cls) (hK : va_K D cl tys s) (hty : ∀ t ty, am_ty t = some ty → tys[t]? = some (cy t, ty)) (hA : ∀ q, s.heap.size ≤ q → A q) (hI : am_I A D cl cy s.heap al h H locs) (hin : ¬ am_out n 1000)
    (ht : am_ty t = some (.object C)) (hcl : (Cond.classLink own x C).before args s = true) (hao : (Cond.arrayOver (.object C)).before args s = true) (hcells : cells + 1 ≤ R.cells) (hslots : slots + n.toNatClampNeg ≤ R.slots) (hdg : decode cc pc = .ok (.anewarray x, 3))
    (kk : ∀ (q : Nat) (H1 : Heap), am_I A D cl cy s.heap (va_up al h.1.length q) (h.1 ++ [.inl (t, n.toNatClampNeg, some (List.replicate n.toNatClampNeg none))], h.2) H1 locs → W p l e R s m args below meth c H1 locs (cells + 1) (slots + n.toNatClampNeg) Q (F0 m (pc + 3) lk (.ref q :: restK))) : W p l e R s m args below meth c H locs cells slots Q (F0 m pc lk (.int n :: restK)) := by
  have hlt : n.toNatClampNeg < 1000 := Nat.not_le.mp fun q => hin (Or.inr q)
  have hrf : ∀ a2 : Nat → Nat, am_rf a2 (List.replicate n.toNatClampNeg none) = fun _ => none := by
    intro a2
    funext j
    unfold am_rf
    rw [List.getElem?_replicate]
    split <;> rfl
  refine va_newq hx hb hown hcl (va_AO.of hao) hK hI.1 hI.2.1 hI.2.2.1 hA (fun q => hin (Or.inl q)) rfl (by omega) hcells hslots hdg (fun q cA H1 hK1 hP hD hS => kk q H1 ?_)
  obtain ⟨_, _, -, -, -, r1⟩ := (hK1.2 tys.length (cA, .object C) (by simp)).2
  obtain ⟨_, _, -, -, -, r2⟩ := (hK.2 t _ (hty t _ ht)).2
  have ec : cA = cy t := Option.some.inj (r1.symm.trans r2)
  subst ec
  refine am_I_app hI ⟨by simp, fun j r hj => ?_, _, ht, rfl⟩ ?_ ?_ hS
  · rw [List.getElem?_replicate] at hj
    split at hj <;> cases hj
  · show va_P D cl (am_wl cy al h ++ [(q, .inl (cy t, n.toNatClampNeg, .inr (.inr (.inr (.inr (am_rf _ (List.replicate n.toNatClampNeg none)))))))]) H1
    rw [hrf]
    exact hP
  · show va_D A (am_wl cy al h ++ [(q, .inl (cy t, n.toNatClampNeg, .inr (.inr (.inr (.inr (am_rf _ (List.replicate n.toNatClampNeg none)))))))])
    rw [hrf]
    exact hD
theorem am_sim_sa {a j : Nat} {x : Int32} (hx : p.tables.exec = Jvm.exec) (hb : c.code = cc) (hK : va_K D cl tys s) (hty : ∀ t ty, am_ty t = some ty → tys[t]? = some (cy t, ty)) (htc : ∀ t ci, am_tyc t = some ci → ∃ r : vw_C, cl[ci]? = some r ∧ am_ty t = some (.object r.1)) (hI : am_I A D cl cy s.heap al h H locs) (he : am_sa h a x j = some h') (hdg : decode cc pc = .ok (.aastore, 1))
    (kk : ∀ (H1 : Heap) (locs1 : List Loc), am_I A D cl cy s.heap al h' H1 locs1 → h'.1.length = h.1.length → am_slt h'.1 = am_slt h.1 → W p l e R s m args below meth c H1 locs1 cells slots Q (F0 m (pc + 1) lk restK)) : W p l e R s m args below meth c H locs cells slots Q (F0 m pc lk (.ref (al j) :: .int x :: .ref (al a) :: restK)) := by
  unfold am_sa at he
  split at he
  · rename_i t n rs q hd hj
    split at he
    · cases he
    · rename_i hc
      cases he
      have hin : vp_in x n := fun z => hc (Or.inl z)
      have htq : am_tyc t = some q.1 := by
        by_cases z : am_tyc t = some q.1
        · exact z
        · exact absurd (Or.inr z) hc
      obtain ⟨r, hr1, hr2⟩ := htc t q.1 htq
      have ha := am_wl_at (cy := cy) (al := al) hd
      have hb2 := am_wl_at (cy := cy) (al := al) hj
      obtain ⟨c1, fl⟩ := q
      obtain ⟨w1, w2, w3⟩ := hI.2.2.2.1 a _ hd
      have hlt : x.toNatClampNeg < n := Nat.not_le.mp fun q => hin (Or.inr q)
      have hjl := (List.getElem?_eq_some_iff.mp hj).1
      refine va_astq hx hb hK hI.1 hI.2.1 hI.2.2.1 a t j c1 ha (hty t _ hr2) hb2 hr1 hin hdg (fun H1 locs1 hP hD hS => kk H1 locs1 (am_I_set hI hd ?_ ?_ hP hD hS) (by show (h.1.set a _).length = _; rw [List.length_set]) ?_)
      · show (Sum.inl (cy t, n, .inr (.inr (.inr (.inr (am_rf al (rs.set x.toNatClampNeg (some j))))))) : va_E) = _
        rw [am_rf_set (by omega)]
      · refine ⟨by rw [List.length_set]; exact w1, fun k r hk => ?_, w3⟩
        rw [List.getElem?_set] at hk
        by_cases hkx : x.toNatClampNeg = k
        · rw [if_pos hkx, if_pos (by omega)] at hk
          cases hk
          exact hjl
        · rw [if_neg hkx] at hk
          exact w2 k r hk
      · exact am_slt_set hd rfl
  · cases he
/-- how a call ends -/
def am_Q (D : va_G) (cl : List vw_C) (cy : Nat → ClassId) (al : Nat → Nat) (sb : Nat) (h h' : am_H) (r : Option Value) (z : Nat) : Array Value → State → Outcome → State → Prop := fun _ st oc t =>
  (∃ al' : Nat → Nat, (∀ i, i < h.1.length → al' i = al i) ∧ oc = .returned (r.map (am_rn al' sb)) ∧ (∀ v, r = some v → am_vw h'.1.length v) ∧ va_P D cl (am_wl cy al' h') t.heap ∧ va_D (va_A (am_wl cy al h) z) (am_wl cy al' h') ∧ (∀ (i : Nat) (d : am_D), h'.1[i]? = some d → am_dw h'.1.length d) ∧ ∀ i k : Nat, h'.1.length ≤ i → h'.2 i k = 0) ∧ va_F (va_A (am_wl cy al h) z) st t
def am_Pre (D : va_G) (cl : List vw_C) (cy : Nat → ClassId) (tys : List (ClassId × FieldType)) (al : Nat → Nat) (sb : Nat) (as : List Value) (h : am_H) (z : Nat) : Array Value → State → Prop :=
  va_Pc (as.map (am_rn al sb)) (fun U => U.heap.size = z ∧ va_P D cl (am_wl cy al h) U.heap ∧ va_K D cl tys U ∧ va_D (fun _ => True) (am_wl cy al h) ∧ am_NW U)
theorem am_callQ {mc ms : Nat} {r : Option Value} {a0 : Array Value} {st0 : List Value} (hr : va_Run p l e R s m args below meth c H locs cells slots mc ms (F0 m pc lk st0) (rest.map (am_rn al sb)) (am_Q D cl cy al sb h h' r H.size a0) (va_A (am_wl cy al h) H.size)) (hI : am_I A D cl cy s.heap al h H locs) (hA : ∀ q, s.heap.size ≤ q → A q) (hrest : ∀ v ∈ rest, am_vw h.1.length v)
    (kk : ∀ (al' : Nat → Nat) (H1 : Heap) (locs1 : List Loc), (∀ i, i < h.1.length → al' i = al i) → am_I A D cl cy s.heap al' h' H1 locs1 → (∀ v, r = some v → am_vw h'.1.length v) → W p l e R s m args below meth c H1 locs1 (cells + mc) (slots + ms) Q (F0 m (pc + 3) lk ((r.toList ++ rest).map (am_rn al' sb)))) : W p l e R s m args below meth c H locs cells slots Q (F0 m pc lk st0) := by
  have hF : ∀ q, va_A (am_wl cy al h) H.size q → A q := by
    intro q hq
    rcases hq with ⟨k, e1, hq⟩ | hq
    · exact hI.2.1.2 k (q, e1) hq
    · exact hA q (Nat.le_trans hI.2.2.1.1 hq)
  intro T hT X
  obtain ⟨v, st₀, t, T', L, h0, X', hL, e1, e2, ⟨⟨al', q1, q2, q3, q5, q6, q7, q8⟩, hz, hk⟩, st⟩ := hr T hT X
  cases q2
  rw [h0] at hz hk
  have hS := hI.2.2.1
  obtain ⟨t2, a1, b1⟩ := kk al' T'.heap (locs ++ L) q1 ⟨by rw [e1]; exact q5, q6.weaken (fun _ q _ z => hF _ z),
    ⟨Nat.le_trans hS.1 (by rw [e1]; exact hz), fun q h1 h2 => by rw [e1, hk q (Nat.lt_of_lt_of_le h1 hS.1) (fun z => h2 (hF q z))]; exact hS.2.1 q h1 h2, fun q hq => by
      rcases List.mem_append.mp hq with h | h
      · exact hS.2.2 q h
      · exact hF _ (hL q h)⟩, q7, q8⟩ q3 T' rfl X'
  have e3 : (r.map (am_rn al' sb)).toList ++ rest.map (am_rn al sb) = (r.toList ++ rest).map (am_rn al' sb) := by
    rw [List.map_append, am_rn_map hrest q1]
    cases r <;> rfl
  refine ⟨t2, st t2 ?_, b1⟩
  show Steps p.tables e below (T'.setTop (F0 m (pc + 3) lk ((r.map (am_rn al' sb)).toList ++ rest.map (am_rn al sb)))) t2
  rw [e3]
  exact a1
end AMN
end
section
/-! Calls, and a whole run. -/
def am_grow (f : am_F) : Prop := ∀ (N : Nat) (as : List Value) (h : am_H) (r : Option Value) (h' : am_H), f N as h = some (r, h') → h.1.length ≤ h'.1.length ∧ am_slt h.1 ≤ am_slt h'.1
/-- a method of the kit's machine does what the function says -/
def am_Sd (l : Launch) (cl : List vw_C) (y : MethodName) (ws : List Cond) (fr lo : Nat) (f : am_F) : Prop :=
  ∀ (D : va_G) (cy : Nat → ClassId) (tys : List (ClassId × FieldType)) (N : Nat) (as : List Value) (h h' : am_H) (r : Option Value) (al : Nat → Nat) (sb z : Nat), (∀ t ty, am_ty t = some ty → tys[t]? = some (cy t, ty)) → f N as h = some (r, h') → (∀ v ∈ as, am_vw h.1.length v) → (∀ (i : Nat) (d : am_D), h.1[i]? = some d → am_dw h.1.length d) → (∀ i k : Nat, h.1.length ≤ i → h.2 i k = 0) →
    Met l y ws { frames := fr, cells := h'.1.length - h.1.length, slots := am_slt h'.1 - am_slt h.1, locals := lo } (am_Pre D cl cy tys al sb as h z) (am_Q D cl cy al sb h h' r z) (h'.1.length - h.1.length) (am_slt h'.1 - am_slt h.1) (va_A (am_wl cy al h) z)
section AMC
variable {p : Program} {l : Launch} {e : Env} {R : Room} {s : State} {m : MethodId} {args : Array Value} {below : List Frame} {meth : Method} {c : Code}
variable {cc : ByteArray} {pc nL n0 s0 sb : Nat} {A : Nat → Prop} {D : va_G} {cl : List vw_C} {cy : Nat → ClassId} {tys : List (ClassId × FieldType)} {Ts : List Cond} {own : String}
/-- a call's step -/
def am_cOK (p : Program) (l : Launch) (e : Env) (R : Room) (s : State) (m : MethodId) (args : Array Value) (below : List Frame) (meth : Method) (c : Code) (A : Nat → Prop) (D : va_G) (cl : List vw_C) (cy : Nat → ClassId) (sb nL n0 s0 pc na : Nat) (rc : Option Nat) (f : am_F) : Prop :=
  ∀ (N : Nat) (as rest : List Value) (h h' : am_H) (r : Option Value) (al : Nat → Nat) (H : Heap) (locs : List Loc) (lk : Array Slot) (Q : State → Prop), f N as h = some (r, h') → as.length = na → am_rc h as rc = true → rest.length ≤ 8 → am_I A D cl cy s.heap al h H locs → (∀ v ∈ as, am_vw h.1.length v) → (∀ v ∈ rest, am_vw h.1.length v) → lk.size = nL → n0 ≤ h.1.length → s0 ≤ am_slt h.1 → h.1.length ≤ h'.1.length → am_slt h.1 ≤ am_slt h'.1 → h'.1.length ≤ n0 + R.cells → am_slt h'.1 ≤ s0 + R.slots →
    (∀ (al' : Nat → Nat) (H1 : Heap) (locs1 : List Loc), (∀ i, i < h.1.length → al' i = al i) → am_I A D cl cy s.heap al' h' H1 locs1 → (∀ v, r = some v → am_vw h'.1.length v) → W p l e R s m args below meth c H1 locs1 (h'.1.length - n0) (am_slt h'.1 - s0) Q (F0 m (pc + 3) lk ((r.toList ++ rest).map (am_rn al' sb)))) →
    W p l e R s m args below meth c H locs (h.1.length - n0) (am_slt h.1 - s0) Q (F0 m pc lk ((as.reverse ++ rest).map (am_rn al sb)))
theorem am_blind {al : Nat → Nat} {as : List Value} {h : am_H} {z : Nat} : FrameBlind (am_Pre D cl cy tys al sb as h z) := by
  intro a U g mk q
  obtain ⟨q0, q1, qP, qK, qD, qN⟩ := q
  exact ⟨q0, q1, qP, va_K.moved (u := U) (U := U.calling g mk a) (Vm.Alike.refl U.vm) qK, qD, am_NW_same (u := U) (U := U.calling g mk a) rfl qN⟩
theorem am_pre {al : Nat → Nat} {as : List Value} {h : am_H} {H : Heap} {locs : List Loc} (hK : va_K D cl tys s) (hN : am_NW s) (hI : am_I A D cl cy s.heap al h H locs) : PreS s H (am_Pre D cl cy tys al sb as h H.size) (as.map (am_rn al sb)) :=
  ⟨am_blind, fun U hU hW => ⟨rfl, by rw [hU], by rw [hU]; exact hI.1, va_K.moved hW.alike hK, hI.2.1.weaken (fun _ _ _ _ => trivial), am_NW_warm hW hN⟩⟩
theorem am_lenw {n : Nat} {al : Nat → Nat} {vs : List Value} (h : ∀ v ∈ vs, am_vw n v) : ((vs.map (am_rn al sb)).map fun v => v.category).sum = vs.length := by
  induction vs with
  | nil => rfl
  | cons a vs ih =>
    have h1 := List.forall_mem_cons.mp h
    simp only [List.map_cons, List.sum_cons, List.length_cons, am_vw_cat al sb h1.1, ih h1.2]
    omega
theorem am_rc_some {h : am_H} {as : List Value} {ci : Nat} (hr : am_rc h as (some ci) = true) : ∃ a as' fl, as = .ref a :: as' ∧ h.1[a]? = some (.inr (ci, fl)) := by
  unfold am_rc at hr
  cases as with
  | nil => cases hr
  | cons v as' =>
    cases v with
    | ref a =>
      dsimp only at hr
      cases hd : h.1[a]? with
      | none => rw [hd] at hr; cases hr
      | some d =>
        cases d with
        | inl z => rw [hd] at hr; cases hr
        | inr q =>
          rw [hd] at hr
          obtain ⟨c0, fl⟩ := q
          have : c0 = ci := beq_iff_eq.mp hr
          subst this
          exact ⟨a, as', fl, rfl, hd⟩
    | _ => cases hr
theorem am_rev {al : Nat → Nat} (as rest : List Value) : (as.reverse ++ rest).map (am_rn al sb) = (as.map (am_rn al sb)).reverse ++ rest.map (am_rn al sb) := by simp
theorem am_cV {x ci fr lo maxL na : Nat} {C : String} {T : u_T} {Nf : Nat} {y : MethodName} {bytes : ByteArray} {ret : Option FieldType} {ws : List Cond} {f : am_F} (S : CallFix p m c cc nL s args Ts own) (hK : va_K D cl tys s) (hN : am_NW s) (hty : ∀ t ty, am_ty t = some ty → tys[t]? = some (cy t, ty)) (hA : ∀ q, s.heap.size ≤ q → A q) (hSd : am_Sd l cl y ws fr lo f) (hci : cl[ci]? = some (C, T, Nf))
    (cw : ∀ mc ms, CallW R s args own C x y bytes maxL ret ws { frames := fr, cells := mc, slots := ms, locals := lo } mc ms na) (hdg : decode cc pc = .ok (.invokevirtual x, 3)) : am_cOK p l e R s m args below meth c A D cl cy sb nL n0 s0 pc (na + 1) (some ci) f := by
  intro N as rest h h' r al H locs lk Q hf hn hrc h8 hI hva hvr hlk hn0 hs0 hg1 hg2 hc1 hc2 kk
  obtain ⟨a, as', fl, rfl, hd⟩ := am_rc_some hrc
  have hM := hSd D cy tys N _ h h' r al sb H.size hty hf hva hI.2.2.2.1 hI.2.2.2.2
  have hp : PreV s H C (al a) (am_Pre D cl cy tys al sb (.ref a :: as') h H.size) (as'.map (am_rn al sb)) := ⟨am_blind, va_recv hK hI.1 hci (am_wl_at hd), (am_pre hK hN hI).2⟩
  rw [am_rev]
  refine am_callQ (mc := h'.1.length - h.1.length) (ms := am_slt h'.1 - am_slt h.1) (va_runV S hM (cw _ _) hp rfl (by simpa using hn) hlk (by simp [am_rn]) (lv_room (by rw [am_lenw hvr]; exact h8)) hdg ⟨by omega, by omega⟩) hI hA hvr (fun al' H1 locs1 e1 e2 e3 => ?_)
  exact W.cs (by omega) (by omega) (kk al' H1 locs1 e1 e2 e3)
theorem am_cVN {x ci fr lo maxL na : Nat} {C host : String} {T : u_T} {Nf : Nat} {y : MethodName} {bytes : ByteArray} {ret : Option FieldType} {ws : List Cond} {f : am_F} (S : CallFix p m c cc nL s args Ts own) (hK : va_K D cl tys s) (hN : am_NW s) (hty : ∀ t ty, am_ty t = some ty → tys[t]? = some (cy t, ty)) (hA : ∀ q, s.heap.size ≤ q → A q) (hSd : am_Sd l cl y ws fr lo f) (hci : cl[ci]? = some (C, T, Nf))
    (cw : ∀ mc ms, va_CN R s args own x y host bytes maxL ret ws { frames := fr, cells := mc, slots := ms, locals := lo } mc ms na ∧ (Cond.instanceMethod y).before args s = true ∧ (Cond.selects C y y).before args s = true) (hdg : decode cc pc = .ok (.invokevirtual x, 3)) : am_cOK p l e R s m args below meth c A D cl cy sb nL n0 s0 pc (na + 1) (some ci) f := by
  intro N as rest h h' r al H locs lk Q hf hn hrc h8 hI hva hvr hlk hn0 hs0 hg1 hg2 hc1 hc2 kk
  obtain ⟨a, as', fl, rfl, hd⟩ := am_rc_some hrc
  have hM := hSd D cy tys N _ h h' r al sb H.size hty hf hva hI.2.2.2.1 hI.2.2.2.2
  have hp : PreV s H C (al a) (am_Pre D cl cy tys al sb (.ref a :: as') h H.size) (as'.map (am_rn al sb)) := ⟨am_blind, va_recv hK hI.1 hci (am_wl_at hd), (am_pre hK hN hI).2⟩
  rw [am_rev]
  refine am_callQ (mc := h'.1.length - h.1.length) (ms := am_slt h'.1 - am_slt h.1) (va_runVN S hM (cw _ _) hp rfl (by simpa using hn) hlk (by simp [am_rn]) (lv_room (by rw [am_lenw hvr]; exact h8)) hdg ⟨by omega, by omega⟩) hI hA hvr (fun al' H1 locs1 e1 e2 e3 => ?_)
  exact W.cs (by omega) (by omega) (kk al' H1 locs1 e1 e2 e3)
theorem am_cS {x fr lo maxL na : Nat} {y : MethodName} {bytes : ByteArray} {ret : Option FieldType} {ws : List Cond} {f : am_F} (S : CallFix p m c cc nL s args Ts own) (hK : va_K D cl tys s) (hN : am_NW s) (hty : ∀ t ty, am_ty t = some ty → tys[t]? = some (cy t, ty)) (hA : ∀ q, s.heap.size ≤ q → A q) (hSd : am_Sd l cl y ws fr lo f)
    (cw : ∀ mc ms, CallB R s args own x y bytes maxL ret ws { frames := fr, cells := mc, slots := ms, locals := lo } mc ms na ∧ (Cond.static y).before args s = true) (hdg : decode cc pc = .ok (.invokestatic x, 3)) : am_cOK p l e R s m args below meth c A D cl cy sb nL n0 s0 pc na none f := by
  intro N as rest h h' r al H locs lk Q hf hn hrc h8 hI hva hvr hlk hn0 hs0 hg1 hg2 hc1 hc2 kk
  have hM := hSd D cy tys N _ h h' r al sb H.size hty hf hva hI.2.2.2.1 hI.2.2.2.2
  rw [am_rev]
  refine am_callQ (mc := h'.1.length - h.1.length) (ms := am_slt h'.1 - am_slt h.1) (va_runS S hM (cw _ _) (am_pre hK hN hI) rfl (by simpa using hn) hlk rfl (lv_room (by rw [am_lenw hvr]; exact h8)) hdg ⟨by omega, by omega⟩) hI hA hvr (fun al' H1 locs1 e1 e2 e3 => ?_)
  exact W.cs (by omega) (by omega) (kk al' H1 locs1 e1 e2 e3)
theorem am_cSN {x fr lo maxL na : Nat} {host : String} {y : MethodName} {bytes : ByteArray} {ret : Option FieldType} {ws : List Cond} {f : am_F} (S : CallFix p m c cc nL s args Ts own) (hK : va_K D cl tys s) (hN : am_NW s) (hty : ∀ t ty, am_ty t = some ty → tys[t]? = some (cy t, ty)) (hA : ∀ q, s.heap.size ≤ q → A q) (hSd : am_Sd l cl y ws fr lo f)
    (cw : ∀ mc ms, va_CN R s args own x y host bytes maxL ret ws { frames := fr, cells := mc, slots := ms, locals := lo } mc ms na ∧ (Cond.static y).before args s = true ∧ True) (hdg : decode cc pc = .ok (.invokestatic x, 3)) : am_cOK p l e R s m args below meth c A D cl cy sb nL n0 s0 pc na none f := by
  intro N as rest h h' r al H locs lk Q hf hn hrc h8 hI hva hvr hlk hn0 hs0 hg1 hg2 hc1 hc2 kk
  have hM := hSd D cy tys N _ h h' r al sb H.size hty hf hva hI.2.2.2.1 hI.2.2.2.2
  rw [am_rev]
  refine am_callQ (mc := h'.1.length - h.1.length) (ms := am_slt h'.1 - am_slt h.1) (va_runSN S hM (cw _ _) (am_pre hK hN hI) rfl (by simpa using hn) hlk rfl (lv_room (by rw [am_lenw hvr]; exact h8)) hdg ⟨by omega, by omega⟩) hI hA hvr (fun al' H1 locs1 e1 e2 e3 => ?_)
  exact W.cs (by omega) (by omega) (kk al' H1 locs1 e1 e2 e3)
theorem am_ref1 {h : am_H} {as : List Value} {na ci : Nat} (hn : as.length = na + 1) (hr : am_rc h as (some ci) = true) : ∃ a as', as = .ref a :: as' ∧ as'.length = na := by
  obtain ⟨a, as', fl, rfl, -⟩ := am_rc_some hr
  exact ⟨a, as', rfl, by simpa using hn⟩
theorem am_cI {x ci fr lo maxL na : Nat} {y : MethodName} {bytes : ByteArray} {ws : List Cond} {f : am_F} (S : CallFix p m c cc nL s args Ts own) (hK : va_K D cl tys s) (hN : am_NW s) (hty : ∀ t ty, am_ty t = some ty → tys[t]? = some (cy t, ty)) (hA : ∀ q, s.heap.size ≤ q → A q) (hSd : am_Sd l cl y ws fr lo f)
    (cw : ∀ mc ms, CallB R s args own x y bytes maxL none ws { frames := fr, cells := mc, slots := ms, locals := lo } mc ms na ∧ y.name = "<init>" ∧ (Cond.instanceMethod y).before args s = true) (hdg : decode cc pc = .ok (.invokespecial x, 3)) : am_cOK p l e R s m args below meth c A D cl cy sb nL n0 s0 pc (na + 1) (some ci) f := by
  intro N as rest h h' r al H locs lk Q hf hn hrc h8 hI hva hvr hlk hn0 hs0 hg1 hg2 hc1 hc2 kk
  obtain ⟨a, as', rfl, hn'⟩ := am_ref1 hn hrc
  have hM := hSd D cy tys N _ h h' r al sb H.size hty hf hva hI.2.2.2.1 hI.2.2.2.2
  rw [am_rev]
  refine am_callQ (mc := h'.1.length - h.1.length) (ms := am_slt h'.1 - am_slt h.1) (va_runI (b := al a) (As := as'.map (am_rn al sb)) S hM (cw _ _) (am_pre hK hN hI) rfl (by simpa using hn') hlk (by simp [am_rn]) (lv_room (by rw [am_lenw hvr]; exact h8)) hdg ⟨by omega, by omega⟩) hI hA hvr (fun al' H1 locs1 e1 e2 e3 => ?_)
  exact W.cs (by omega) (by omega) (kk al' H1 locs1 e1 e2 e3)
theorem am_cIN {x ci fr lo maxL na : Nat} {host : String} {y : MethodName} {bytes : ByteArray} {ws : List Cond} {f : am_F} (S : CallFix p m c cc nL s args Ts own) (hK : va_K D cl tys s) (hN : am_NW s) (hty : ∀ t ty, am_ty t = some ty → tys[t]? = some (cy t, ty)) (hA : ∀ q, s.heap.size ≤ q → A q) (hSd : am_Sd l cl y ws fr lo f)
    (cw : ∀ mc ms, va_CN R s args own x y host bytes maxL none ws { frames := fr, cells := mc, slots := ms, locals := lo } mc ms na ∧ y.name = "<init>" ∧ (Cond.instanceMethod y).before args s = true) (hdg : decode cc pc = .ok (.invokespecial x, 3)) : am_cOK p l e R s m args below meth c A D cl cy sb nL n0 s0 pc (na + 1) (some ci) f := by
  intro N as rest h h' r al H locs lk Q hf hn hrc h8 hI hva hvr hlk hn0 hs0 hg1 hg2 hc1 hc2 kk
  obtain ⟨a, as', rfl, hn'⟩ := am_ref1 hn hrc
  have hM := hSd D cy tys N _ h h' r al sb H.size hty hf hva hI.2.2.2.1 hI.2.2.2.2
  rw [am_rev]
  refine am_callQ (mc := h'.1.length - h.1.length) (ms := am_slt h'.1 - am_slt h.1) (va_runIN (b := al a) (As := as'.map (am_rn al sb)) S hM (cw _ _) (am_pre hK hN hI) rfl (by simpa using hn') hlk (by simp [am_rn]) (lv_room (by rw [am_lenw hvr]; exact h8)) hdg ⟨by omega, by omega⟩) hI hA hvr (fun al' H1 locs1 e1 e2 e3 => ?_)
  exact W.cs (by omega) (by omega) (kk al' H1 locs1 e1 e2 e3)
end AMC
end
section
/-! The two library calls that are no methods of ours; a whole run. -/
def am_obj : am_F := fun _ as h => match as with
  | [.ref _] => some (none, h)
  | _ => none
def am_cp (s : am_S) (a sp b dp n : Nat) : am_S := fun i => if i = b then va_cpy (s a) (s b) sp dp n else s i
def am_cpy : am_F := fun _ as h => match as with
  | [.ref a, .int sp, .ref b, .int dp, .int n] => (match h.1[a]?, h.1[b]? with
    | some (.inl (t, n0, none)), some (.inl (t', n1, none)) => if (t = 0 ∧ t' = 0) ∧ (¬ sp < 0 ∧ ¬ dp < 0 ∧ ¬ n < 0) ∧ sp.toNatClampNeg + n.toNatClampNeg ≤ n0 ∧ dp.toNatClampNeg + n.toNatClampNeg ≤ n1 then some (none, (h.1, am_cp h.2 a sp.toNatClampNeg b dp.toNatClampNeg n.toNatClampNeg)) else none
    | _, _ => none)
  | _ => none
theorem am_obj_some {N : Nat} {as : List Value} {h h' : am_H} {r : Option Value} (e : am_obj N as h = some (r, h')) : ∃ a, as = [.ref a] ∧ r = none ∧ h' = h := by
  unfold am_obj at e
  split at e
  · cases e
    exact ⟨_, rfl, rfl, rfl⟩
  · cases e
theorem am_cpy_some {N : Nat} {as : List Value} {h h' : am_H} {r : Option Value} (e : am_cpy N as h = some (r, h')) : ∃ a sp b dp n n0 n1, as = [.ref a, .int sp, .ref b, .int dp, .int n] ∧ h.1[a]? = some (.inl (0, n0, none)) ∧ h.1[b]? = some (.inl (0, n1, none)) ∧ (¬ sp < 0 ∧ ¬ dp < 0 ∧ ¬ n < 0) ∧ sp.toNatClampNeg + n.toNatClampNeg ≤ n0 ∧ dp.toNatClampNeg + n.toNatClampNeg ≤ n1 ∧ r = none ∧ h' = (h.1, am_cp h.2 a sp.toNatClampNeg b dp.toNatClampNeg n.toNatClampNeg) := by
  unfold am_cpy at e
  split at e
  · split at e
    · rename_i t n0 t' n1 h1 h2
      split at e
      · rename_i hc
        obtain ⟨⟨rfl, rfl⟩, h3, h4, h5⟩ := hc
        cases e
        exact ⟨_, _, _, _, _, _, _, rfl, h1, h2, h3, h4, h5, rfl, rfl⟩
      · cases e
    · cases e
  · cases e
theorem am_obj_mono : am_mono am_obj := fun _ _ _ _ _ _ e => e
theorem am_cpy_mono : am_mono am_cpy := fun _ _ _ _ _ _ e => e
theorem am_obj_grow : am_grow am_obj := fun N as h r h' e => by
  obtain ⟨a, -, -, rfl⟩ := am_obj_some e
  exact ⟨Nat.le_refl _, Nat.le_refl _⟩
theorem am_cpy_grow : am_grow am_cpy := fun N as h r h' e => by
  obtain ⟨_, _, _, _, _, _, _, -, -, -, -, -, -, -, rfl⟩ := am_cpy_some e
  exact ⟨Nat.le_refl _, Nat.le_refl _⟩
section AMR
variable {p : Program} {l : Launch} {e : Env} {R : Room} {s : State} {m : MethodId} {args : Array Value} {below : List Frame} {meth : Method} {c : Code}
variable {cc : ByteArray} {pc nL n0 s0 sb : Nat} {A : Nat → Prop} {D : va_G} {cl : List vw_C} {cy : Nat → ClassId} {tys : List (ClassId × FieldType)} {Ts : List Cond} {own : String} {M : am_M}
theorem am_cObj {x : Nat} {rc : Option Nat} (S : CallFix p m c cc nL s args Ts own) (hl : (Cond.methodLink own x Lib.objectInit).before args s = true) (hi : (Cond.instanceMethod Lib.objectInit).before args s = true) (hcd : (Cond.code Lib.objectInit ⟨#[0xb1]⟩ 1 none).before args s = true) (hR : 1 ≤ R.frames ∧ 20 ≤ R.locals) (hdg : decode cc pc = .ok (.invokespecial x, 3)) : am_cOK p l e R s m args below meth c A D cl cy sb nL n0 s0 pc 1 rc am_obj := by
  intro N as rest h h' r al H locs lk Q hf hn hrc h8 hI hva hvr hlk hn0 hs0 hg1 hg2 hc1 hc2 kk
  obtain ⟨a, rfl, rfl, rfl⟩ := am_obj_some hf
  obtain ⟨hx, hb, hml, ho, -⟩ := S
  refine W.objInit hx hb ho hl hi hcd rfl (hlk.trans hml.symm) (a := al a) (rest := rest.map (am_rn al sb)) rfl hdg hR.1 ?_ (kk al H locs (fun _ _ => rfl) hI (fun v hv => by cases hv))
  show 2 * 0 + _ + 12 ≤ _
  rw [am_lenw hvr]
  omega
theorem am_cCp {x : Nat} {rc : Option Nat} (S : CallFix p m c cc nL s args Ts own) (hK : va_K D cl tys s) (hty : ∀ t ty, am_ty t = some ty → tys[t]? = some (cy t, ty)) (h0 : am_ty 0 = some .int) (hl : (Cond.methodLink own x arraycopyName).before args s = true) (hnat : (Cond.native arraycopyName).before args s = true) (hstat : (Cond.static arraycopyName).before args s = true) (hini : (Cond.initialized "java/lang/System").before args s = true) (hR : 1 ≤ R.frames ∧ 26 ≤ R.locals) (hdg : decode cc pc = .ok (.invokestatic x, 3)) : am_cOK p l e R s m args below meth c A D cl cy sb nL n0 s0 pc 5 rc am_cpy := by
  intro N as rest h h' r al H locs lk Q hf hn hrc h8 hI hva hvr hlk hn0 hs0 hg1 hg2 hc1 hc2 kk
  obtain ⟨a, sp, b, dp, n, k0, k1, rfl, ha, hb1, ⟨h1, h2, h3⟩, h4, h5, rfl, rfl⟩ := am_cpy_some hf
  obtain ⟨hx, hb, hml, ho, -⟩ := S
  have wa := am_wl_at (cy := cy) (al := al) ha
  have wb := am_wl_at (cy := cy) (al := al) hb1
  refine va_copyi hx hb (hml.trans hlk.symm) ho hl hnat hstat hini hK hI.1 hI.2.1 hI.2.2.1 a b 0 0 wa wb (hty 0 _ h0) (hty 0 _ h0) rfl h1 h2 h3 h4 h5 (fun _ _ => rfl) hR.1 ?_ hdg (fun H1 locs1 hP hD hS => kk al H1 locs1 (fun _ _ => rfl) ?_ (fun v hv => by cases hv))
  · show ((rest.map (am_rn al sb)).map fun v => v.category).sum + _ ≤ _
    rw [am_lenw hvr]
    have : nativeFrameWords "java/lang/System" "arraycopy" 5 = 7 := by decide
    omega
  · obtain ⟨-, -, -, hw, hz⟩ := hI
    have hbl := (List.getElem?_eq_some_iff.mp hb1).1
    have ee := am_wl_set (h' := (h.1, am_cp h.2 a sp.toNatClampNeg b dp.toNatClampNeg n.toNatClampNeg)) (cy := cy) (al := al) (x := .inl (cy 0, k1, .inl (va_cpy (h.2 a) (h.2 b) sp.toNatClampNeg dp.toNatClampNeg n.toNatClampNeg))) hb1 (fun _ _ => rfl) (fun j hj => by show (if j = b then _ else _) = _; rw [if_neg hj]) hb1 (by simp only [am_ex, am_cp, if_pos]) hw
    refine ⟨by rw [ee]; exact hP, by rw [ee]; exact hD, hS, hw, fun j k hj => ?_⟩
    show (if j = b then _ else h.2 j) k = 0
    rw [if_neg (by have : h.1.length ≤ j := hj; omega)]
    exact hz j k hj
/-- a grid is made -/
def am_GOK (p : Program) (l : Launch) (e : Env) (R : Room) (s : State) (m : MethodId) (args : Array Value) (below : List Frame) (meth : Method) (c : Code) (A : Nat → Prop) (D : va_G) (cl : List vw_C) (cy : Nat → ClassId) (nL n0 s0 pc t : Nat) : Prop :=
  ∀ (n k : Int32) (restK : List Value) (h : am_H) (al : Nat → Nat) (H : Heap) (locs : List Loc) (lk : Array Slot) (Q : State → Prop), ¬ am_out n 1000 → ¬ am_out k 1000 → am_I A D cl cy s.heap al h H locs → lk.size = nL → n0 ≤ h.1.length → s0 ≤ am_slt h.1 → h.1.length + 1 + n.toNatClampNeg ≤ n0 + R.cells → am_slt h.1 + n.toNatClampNeg + n.toNatClampNeg * k.toNatClampNeg ≤ s0 + R.slots →
    (∀ (al' : Nat → Nat) (H1 : Heap), (∀ i, i < h.1.length → al' i = al i) → am_I A D cl cy s.heap al' (h.1 ++ ([.inl (t, n.toNatClampNeg, some ((List.range n.toNatClampNeg).map fun i => some (h.1.length + 1 + i)))] ++ List.replicate n.toNatClampNeg (.inl (0, k.toNatClampNeg, none))), h.2) H1 locs →
      W p l e R s m args below meth c H1 locs (h.1.length + 1 + n.toNatClampNeg - n0) (am_slt h.1 + n.toNatClampNeg + n.toNatClampNeg * k.toNatClampNeg - s0) Q (F0 m (pc + 4) lk (.ref (al' h.1.length) :: restK))) →
    W p l e R s m args below meth c H locs (h.1.length - n0) (am_slt h.1 - s0) Q (F0 m pc lk (.int k :: .int n :: restK))
/-- what the tables must say of an instruction -/
def am_V (p : Program) (l : Launch) (e : Env) (R : Room) (s : State) (m : MethodId) (args : Array Value) (below : List Frame) (meth : Method) (c : Code) (cc : ByteArray) (Ts : List Cond) (own : String) (A : Nat → Prop) (D : va_G) (cl : List vw_C) (cy : Nat → ClassId) (sb nL n0 s0 : Nat) (M : am_M) (pc : Nat) (i : Instr) : Prop :=
  (∃ len, decode cc pc = .ok (i, len) ∧ (am_len i = 0 ∨ am_len i = len)) ∧ am_bd nL pc i = true ∧ (match i with
    | .getfield x => ∀ q, am_fld M x = some q → am_gOK cl Ts own args s x q.1 q.2.1
    | .putfield x => ∀ q, am_fld M x = some q → am_pOK cl Ts own args s meth x q.1 q.2.1 q.2.2
    | .new x => ∀ q, am_new M x = some q → am_nOK cl Ts own args s x q.1 q.2
    | .newarray t => (t = .int → (Cond.arrayClass .int).before args s = true) ∧ (t = .boolean → (Cond.arrayClass .boolean).before args s = true)
    | .anewarray x => ∀ t, am_arr M x = some t → ∃ C, am_ty t = some (.object C) ∧ (Cond.classLink own x C).before args s = true ∧ (Cond.arrayOver (.object C)).before args s = true
    | .multianewarray x _ => ∀ t, am_arr M x = some t → am_GOK p l e R s m args below meth c A D cl cy nL n0 s0 pc t
    | .invokevirtual x => ∀ q, am_cal M x = some q → am_cOK p l e R s m args below meth c A D cl cy sb nL n0 s0 pc q.1 q.2.1 q.2.2
    | .invokespecial x => ∀ q, am_cal M x = some q → am_cOK p l e R s m args below meth c A D cl cy sb nL n0 s0 pc q.1 q.2.1 q.2.2
    | .invokestatic x => ∀ q, am_cal M x = some q → am_cOK p l e R s m args below meth c A D cl cy sb nL n0 s0 pc q.1 q.2.1 q.2.2
    | _ => True)
end AMR
end
section
/-! A whole run, by its fuel. -/
section AMZ
variable {p : Program} {l : Launch} {e : Env} {R : Room} {s : State} {m : MethodId} {args : Array Value} {below : List Frame} {meth : Method} {c : Code}
variable {cc : ByteArray} {pc nL n0 s0 sb x t : Nat} {A : Nat → Prop} {D : va_G} {cl : List vw_C} {cy : Nat → ClassId} {tys : List (ClassId × FieldType)} {Ts : List Cond} {own : String} {M : am_M} {st st' ls : List Value} {h h' : am_H} {i : Instr} {al : Nat → Nat} {H : Heap} {locs : List Loc} {lk : Array Slot} {Q : State → Prop}
theorem am_gfF_inv (he : am_gfF M x st h = some (st', h')) : ∃ q i r v, am_fld M x = some q ∧ st = .ref i :: r ∧ am_gf h i q.1 q.2.1 = some v ∧ st' = v :: r ∧ h' = h := by
  unfold am_gfF at he
  split at he
  · rename_i q i r hq
    split at he
    · rename_i v hv
      cases he
      exact ⟨q, i, r, v, hq, rfl, hv, rfl, rfl⟩
    · cases he
  · cases he
theorem am_pfF_inv (he : am_pfF M x st h = some (st', h')) : ∃ q v i, am_fld M x = some q ∧ st = v :: .ref i :: st' ∧ am_pf h i q.1 q.2.1 q.2.2 v = some h' := by
  unfold am_pfF at he
  split at he
  · rename_i q v i r hq
    split at he
    · rename_i v hv
      cases he
      exact ⟨q, _, i, hq, rfl, hv⟩
    · cases he
  · cases he
theorem am_ldF_inv (he : am_ldF M t st h = some (st', h')) : (∃ y i r v, st = .int y :: .ref i :: r ∧ am_ld h t i y = some v ∧ st' = .int v :: r ∧ h' = h) ∨ ∃ y i r v, st = .int y :: .retAddr i :: r ∧ t = 0 ∧ am_sld M y = some v ∧ st' = .int v :: r ∧ h' = h := by
  unfold am_ldF at he
  split at he
  · split at he
    · rename_i v hv
      cases he
      exact Or.inl ⟨_, _, _, v, rfl, hv, rfl, rfl⟩
    · cases he
  · split at he
    · rename_i ht
      split at he
      · rename_i v hv
        cases he
        exact Or.inr ⟨_, _, _, v, rfl, ht, hv, rfl, rfl⟩
      · cases he
    · cases he
  · cases he
theorem am_sdF_inv (he : am_sdF t st h = some (st', h')) : ∃ v y i, st = .int v :: .int y :: .ref i :: st' ∧ am_sd h t i y v = some h' := by
  unfold am_sdF at he
  split at he
  · split at he
    · rename_i v hv
      cases he
      exact ⟨_, _, _, rfl, hv⟩
    · cases he
  · cases he
theorem am_laF_inv (he : am_laF st h = some (st', h')) : ∃ y i r j, st = .int y :: .ref i :: r ∧ am_la h i y = some j ∧ st' = .ref j :: r ∧ h' = h := by
  unfold am_laF at he
  split at he
  · split at he
    · rename_i v hv
      cases he
      exact ⟨_, _, _, _, rfl, hv, rfl, rfl⟩
    · cases he
  · cases he
theorem am_saF_inv (he : am_saF st h = some (st', h')) : ∃ j y i, st = .ref j :: .int y :: .ref i :: st' ∧ am_sa h i y j = some h' := by
  unfold am_saF at he
  split at he
  · split at he
    · rename_i v hv
      cases he
      exact ⟨_, _, _, rfl, hv⟩
    · cases he
  · cases he
theorem am_alF_inv (he : am_alF M st h = some (st', h')) : ∃ q i r, am_scr M = some q ∧ st = .retAddr i :: r ∧ st' = .int (Int32.ofNat q.1) :: r ∧ h' = h := by
  unfold am_alF at he
  split at he
  · rename_i q i r hq
    cases he
    exact ⟨q, i, r, hq, rfl, rfl, rfl⟩
  · cases he
theorem am_mkI_inv (he : am_mkI t st h = some (st', h')) : ∃ n r, st = .int n :: r ∧ ¬ am_out n 1000 ∧ st' = .ref h.1.length :: r ∧ h' = (h.1 ++ [.inl (t, n.toNatClampNeg, none)], h.2) := by
  unfold am_mkI at he
  split at he
  · split at he
    · cases he
    · rename_i hn
      cases he
      exact ⟨_, _, rfl, hn, rfl, rfl⟩
  · cases he
theorem am_mkA_inv (he : am_mkA M x st h = some (st', h')) : ∃ t n r, am_arr M x = some t ∧ st = .int n :: r ∧ ¬ am_out n 1000 ∧ st' = .ref h.1.length :: r ∧ h' = (h.1 ++ [.inl (t, n.toNatClampNeg, some (List.replicate n.toNatClampNeg none))], h.2) := by
  unfold am_mkA at he
  split at he
  · rename_i t n r hq
    split at he
    · cases he
    · rename_i hn
      cases he
      exact ⟨t, n, r, hq, rfl, hn, rfl, rfl⟩
  · cases he
theorem am_mkG_inv (he : am_mkG M x st h = some (st', h')) : ∃ t k n r, am_arr M x = some t ∧ st = .int k :: .int n :: r ∧ ¬ am_out n 1000 ∧ ¬ am_out k 1000 ∧ st' = .ref h.1.length :: r ∧ h' = (h.1 ++ ([.inl (t, n.toNatClampNeg, some ((List.range n.toNatClampNeg).map fun i => some (h.1.length + 1 + i)))] ++ List.replicate n.toNatClampNeg (.inl (0, k.toNatClampNeg, none))), h.2) := by
  unfold am_mkG at he
  split at he
  · rename_i t k n r hq
    split at he
    · cases he
    · rename_i hn
      cases he
      exact ⟨t, k, n, r, hq, rfl, fun q => hn (Or.inl q), fun q => hn (Or.inr q), rfl, rfl⟩
  · cases he
theorem am_mkO_inv (he : am_mkO M x st h = some (st', h')) : ∃ q, am_new M x = some q ∧ st' = .ref h.1.length :: st ∧ h' = (h.1 ++ [.inr q], h.2) := by
  unfold am_mkO at he
  split at he
  · rename_i q hq
    cases he
    exact ⟨q, hq, rfl, rfl⟩
  · cases he
theorem am_pf_grow {a ci k kd : Nat} {v : Value} (he : am_pf h a ci k kd v = some h') : h'.1.length = h.1.length ∧ am_slt h'.1 = am_slt h.1 := by
  unfold am_pf at he
  split at he
  · rename_i q hd
    split at he
    · split at he
      · cases he; exact ⟨rfl, rfl⟩
      · split at he
        · cases he; exact ⟨rfl, rfl⟩
        · cases he
      · cases he
        exact ⟨List.length_set .., am_slt_set hd (by simp [am_sz])⟩
      · cases he
    · cases he
  · cases he
theorem am_sd_grow {a : Nat} {y v : Int32} (he : am_sd h t a y v = some h') : h'.1 = h.1 := by
  unfold am_sd at he
  split at he
  · split at he
    · cases he; rfl
    · cases he
  · cases he
theorem am_sa_grow {a j : Nat} {y : Int32} (he : am_sa h a y j = some h') : h'.1.length = h.1.length ∧ am_slt h'.1 = am_slt h.1 := by
  unfold am_sa at he
  split at he
  · rename_i t n rs q hd hj
    split at he
    · cases he
    · cases he
      exact ⟨List.length_set .., am_slt_set hd rfl⟩
  · cases he
theorem am_slt_grid (t n k L : Nat) : am_slt ([.inl (t, n, some ((List.range n).map fun i => some (L + 1 + i)))] ++ List.replicate n (.inl (0, k, none))) = n + n * k := by
  simp [am_slt, am_sz]
theorem am_X_grow (he : am_X M i st h = some (st', h')) : h.1.length ≤ h'.1.length ∧ am_slt h.1 ≤ am_slt h'.1 := by
  have ap : ∀ tq : List am_D, h.1.length ≤ (h.1 ++ tq).length ∧ am_slt h.1 ≤ am_slt (h.1 ++ tq) := fun tq => by
    rw [am_slt_app, List.length_append]
    exact ⟨by omega, by omega⟩
  cases i with
  | getfield x => obtain ⟨_, _, _, _, -, -, -, -, rfl⟩ := am_gfF_inv he; exact ⟨Nat.le_refl _, Nat.le_refl _⟩
  | putfield x => obtain ⟨_, _, _, -, -, h1⟩ := am_pfF_inv he; have := am_pf_grow h1; omega
  | iaload => rcases am_ldF_inv he with ⟨_, _, _, _, -, -, -, rfl⟩ | ⟨_, _, _, _, -, -, -, -, rfl⟩ <;> exact ⟨Nat.le_refl _, Nat.le_refl _⟩
  | baload => rcases am_ldF_inv he with ⟨_, _, _, _, -, -, -, rfl⟩ | ⟨_, _, _, _, -, -, -, -, rfl⟩ <;> exact ⟨Nat.le_refl _, Nat.le_refl _⟩
  | iastore => obtain ⟨_, _, _, -, h1⟩ := am_sdF_inv he; rw [am_sd_grow h1]; exact ⟨Nat.le_refl _, Nat.le_refl _⟩
  | bastore => obtain ⟨_, _, _, -, h1⟩ := am_sdF_inv he; rw [am_sd_grow h1]; exact ⟨Nat.le_refl _, Nat.le_refl _⟩
  | aaload => obtain ⟨_, _, _, _, -, -, -, rfl⟩ := am_laF_inv he; exact ⟨Nat.le_refl _, Nat.le_refl _⟩
  | aastore => obtain ⟨_, _, _, -, h1⟩ := am_saF_inv he; have := am_sa_grow h1; omega
  | arraylength => obtain ⟨_, _, _, -, -, -, rfl⟩ := am_alF_inv he; exact ⟨Nat.le_refl _, Nat.le_refl _⟩
  | newarray aty =>
    cases aty with
    | int => obtain ⟨_, _, -, -, -, rfl⟩ := am_mkI_inv he; exact ap _
    | boolean => obtain ⟨_, _, -, -, -, rfl⟩ := am_mkI_inv he; exact ap _
    | _ => cases he
  | anewarray x => obtain ⟨_, _, _, -, -, -, -, rfl⟩ := am_mkA_inv he; exact ap _
  | multianewarray x k =>
    have he : (if k = 2 then am_mkG M x st h else none) = some (st', h') := he
    split at he
    · obtain ⟨_, _, _, _, -, -, -, -, -, rfl⟩ := am_mkG_inv he
      exact ap _
    · cases he
  | new x => obtain ⟨_, -, -, rfl⟩ := am_mkO_inv he; exact ap _
  | _ => cases he
theorem am_callF_inv {N : Nat} (he : am_callF M N x st h = some (st', h')) : ∃ q r as rest, am_cal M x = some q ∧ st = as.reverse ++ rest ∧ as.length = q.1 ∧ rest.length ≤ 8 ∧ am_rc h as q.2.1 = true ∧ q.2.2 N as h = some (r, h') ∧ st' = r.toList ++ rest := by
  unfold am_callF at he
  split at he
  · rename_i q hq
    split at he
    · cases he
    · rename_i hc
      split at he
      · rename_i z hz
        cases he
        refine ⟨q, z.1, (st.take q.1).reverse, st.drop q.1, hq, by rw [List.reverse_reverse, List.take_append_drop], ?_, ?_, ?_, hz, rfl⟩
        · rw [List.length_reverse, List.length_take]
          have : ¬ st.length < q.1 := fun z => hc (Or.inl (Or.inl z))
          omega
        · rw [List.length_drop]
          exact Nat.not_lt.mp fun z => hc (Or.inl (Or.inr z))
        · cases hr : am_rc h (st.take q.1).reverse q.2.1 with
          | true => rfl
          | false => exact absurd (Or.inr hr) hc
      · cases he
  · cases he
theorem am_Y_inv {N : Nat} (he : am_Y M N i st h = some (st', h')) : ∃ x, (i = .invokevirtual x ∨ i = .invokespecial x ∨ i = .invokestatic x) ∧ am_callF M N x st h = some (st', h') := by
  cases i with
  | invokevirtual x => exact ⟨x, Or.inl rfl, he⟩
  | invokespecial x => exact ⟨x, Or.inr (Or.inl rfl), he⟩
  | invokestatic x => exact ⟨x, Or.inr (Or.inr rfl), he⟩
  | _ => cases he
theorem am_stp_inv {N : Nat} {q : Nat × List Value × List Value × am_H} (he : am_stp M N i pc ls st h = some q) :
    (∃ ls' st', am_P i ls st = some (ls', st') ∧ q = (pc + am_len i, ls', st', h)) ∨ (∃ pc' st', am_J i pc st = some (pc', st') ∧ q = (pc', ls, st', h)) ∨ (∃ st' h', am_X M i st h = some (st', h') ∧ q = (pc + am_len i, ls, st', h')) ∨ ∃ st' h', am_Y M N i st h = some (st', h') ∧ q = (pc + 3, ls, st', h') := by
  unfold am_stp at he
  split at he
  · rename_i z hz
    cases he
    exact Or.inl ⟨_, _, hz, rfl⟩
  · split at he
    · rename_i z hz
      cases he
      exact Or.inr (Or.inl ⟨_, _, hz, rfl⟩)
    · split at he
      · rename_i z hz
        cases he
        exact Or.inr (Or.inr (Or.inl ⟨_, _, hz, rfl⟩))
      · split at he
        · rename_i z hz
          cases he
          exact Or.inr (Or.inr (Or.inr ⟨_, _, hz, rfl⟩))
        · cases he
theorem am_run_grow (hG : ∀ x q, am_cal M x = some q → am_grow q.2.2) {N : Nat} : ∀ (n pc : Nat) (ls st : List Value) (h : am_H) (r : Option Value) (h' : am_H), am_run M N n pc ls st h = some (r, h') → h.1.length ≤ h'.1.length ∧ am_slt h.1 ≤ am_slt h'.1
  | 0, _, _, _, _, _, _, he => by cases he
  | n + 1, pc, ls, st, h, r, h', he => by
    cases hc : am_code M pc with
    | none => rw [am_run, hc] at he; cases he
    | some i =>
      cases hr : am_R M i st with
      | some r =>
        rw [am_run_ret hc hr] at he
        cases he
        exact ⟨Nat.le_refl _, Nat.le_refl _⟩
      | none =>
        cases hs : am_stp M N i pc ls st h with
        | none => rw [am_run_no hc hr hs] at he; cases he
        | some q =>
          rw [am_run_step hc hr hs] at he
          have ih := am_run_grow hG n _ _ _ _ r h' he
          rcases am_stp_inv hs with ⟨_, _, h1, rfl⟩ | ⟨_, _, h1, rfl⟩ | ⟨_, _, h1, rfl⟩ | ⟨_, _, h1, rfl⟩
          · exact ih
          · exact ih
          · have := am_X_grow h1
            dsimp only at ih
            omega
          · obtain ⟨x, -, h2⟩ := am_Y_inv h1
            obtain ⟨q, r2, as, rest, h3, -, -, -, -, h4, -⟩ := am_callF_inv h2
            have := hG x q h3 _ _ _ _ _ h4
            dsimp only at ih
            omega
theorem am_fn_grow (hG : ∀ x q, am_cal M x = some q → am_grow q.2.2) : am_grow (am_fn M) := fun N as h r h' he => am_run_grow hG N 0 as [] h r h' he
end AMZ
end
section
section AMY
variable {p : Program} {l : Launch} {e : Env} {R : Room} {s : State} {m : MethodId} {args : Array Value} {below : List Frame} {meth : Method} {c : Code}
variable {cc : ByteArray} {nL n0 s0 sb : Nat} {A : Nat → Prop} {D : va_G} {cl : List vw_C} {cy : Nat → ClassId} {tys : List (ClassId × FieldType)} {Ts : List Cond} {own : String} {M : am_M} {Q : State → Prop}
theorem am_simX {pc : Nat} {st st' : List Value} {h h' : am_H} {i : Instr} {al : Nat → Nat} {H : Heap} {locs : List Loc} {lk : Array Slot} (hx : p.tables.exec = Jvm.exec) (hb : c.code = cc) (hts : ∀ w ∈ Ts, w.before args s = true) (hown : s.vm.findClass own = some m.cls) (hK : va_K D cl tys s) (hty : ∀ t ty, am_ty t = some ty → tys[t]? = some (cy t, ty)) (htc : ∀ t ci, am_tyc t = some ci → ∃ r : vw_C, cl[ci]? = some r ∧ am_ty t = some (.object r.1)) (hA : ∀ q, s.heap.size ≤ q → A q)
    (hsc : ∀ q, am_scr M = some q → va_X sb q.1 q.2 s s.heap ∧ sb < s.heap.size ∧ ¬ A sb) (hv : am_V p l e R s m args below meth c cc Ts own A D cl cy sb nL n0 s0 M pc i) (he : am_X M i st h = some (st', h')) (hI : am_I A D cl cy s.heap al h H locs) (hs : ∀ v ∈ st, am_vw h.1.length v) (hlk : lk.size = nL) (hn0 : n0 ≤ h.1.length) (hs0 : s0 ≤ am_slt h.1) (hc1 : h'.1.length ≤ n0 + R.cells) (hc2 : am_slt h'.1 ≤ s0 + R.slots)
    (kk : ∀ (al' : Nat → Nat) (H1 : Heap) (locs1 : List Loc), (∀ i, i < h.1.length → al' i = al i) → am_I A D cl cy s.heap al' h' H1 locs1 → (∀ v ∈ st', am_vw h'.1.length v) → W p l e R s m args below meth c H1 locs1 (h'.1.length - n0) (am_slt h'.1 - s0) Q (F0 m (pc + am_len i) lk (st'.map (am_rn al' sb)))) : W p l e R s m args below meth c H locs (h.1.length - n0) (am_slt h.1 - s0) Q (F0 m pc lk (st.map (am_rn al sb))) := by
  obtain ⟨⟨len, hd, hl⟩, -, hv⟩ := hv
  have up : ∀ (q : Nat) (r : List Value), (∀ v ∈ r, am_vw h.1.length v) → (∀ v ∈ (Value.ref h.1.length :: r), am_vw (h.1.length + 1) v) ∧ (Value.ref h.1.length :: r).map (am_rn (va_up al h.1.length q) sb) = .ref q :: r.map (am_rn al sb) := fun q r hr =>
    ⟨am_fa (Nat.lt_succ_self _) (fun v hv => am_vw_up (Nat.le_succ _) (hr v hv)), by
      rw [List.map_cons, am_rn_map hr (fun i hi => va_up_ne al q (by omega))]
      show Value.ref (va_up al h.1.length q h.1.length) :: _ = _
      rw [va_up_self]⟩
  have ag : ∀ (q i : Nat), i < h.1.length → va_up al h.1.length q i = al i := fun q i hi => va_up_ne al q (by omega)
  have hl1 : ∀ d : am_D, (h.1 ++ [d]).length = h.1.length + 1 := fun d => by simp
  have hs1 : ∀ d : am_D, am_slt (h.1 ++ [d]) = am_slt h.1 + am_sz d := fun d => by simp [am_slt]
  cases i with
  | getfield x =>
    have hl : 3 = len := by rcases hl with h | h; cases h; exact h
    subst hl
    obtain ⟨q, a, r, v, h1, rfl, h2, rfl, rfl⟩ := am_gfF_inv he
    have hs := List.forall_mem_cons.mp hs
    exact am_sim_gf hx hb hts hown hK hI (hv q h1) h2 hd (fun hw => kk al H locs (fun _ _ => rfl) hI (am_fa hw hs.2))
  | putfield x =>
    have hl : 3 = len := by rcases hl with h | h; cases h; exact h
    subst hl
    obtain ⟨q, v, a, h1, rfl, h2⟩ := am_pfF_inv he
    have hs := List.forall_mem_cons.mp hs
    have hs2 := List.forall_mem_cons.mp hs.2
    refine am_sim_pf hx hb hts hown hK hI (hv q h1) h2 hs.1 hd (fun H1 locs1 hI1 g1 g2 => ?_)
    exact W.cs (by rw [g1]) (by rw [g2]) (kk al H1 locs1 (fun _ _ => rfl) hI1 (by rw [g1]; exact hs2.2))
  | iaload =>
    have hl : 1 = len := by rcases hl with h | h; cases h; exact h
    subst hl
    rcases am_ldF_inv he with ⟨y, a, r, v, rfl, h2, rfl, rfl⟩ | ⟨y, a, r, v, rfl, -, h2, rfl, rfl⟩
    · have hs := List.forall_mem_cons.mp (List.forall_mem_cons.mp hs).2
      exact am_sim_ld hx hb hK hty hI h2 (Or.inl ⟨rfl, rfl, hd⟩) (kk al H locs (fun _ _ => rfl) hI (am_fa trivial hs.2))
    · have hs := List.forall_mem_cons.mp (List.forall_mem_cons.mp hs).2
      unfold am_sld at h2
      split at h2
      · rename_i q hq
        split at h2
        · cases h2
        · rename_i ho
          cases h2
          obtain ⟨g1, g2, g3⟩ := hsc q hq
          exact va_sld hx hb g1 g2 g3 hI.2.2.1 ho hd (kk al H locs (fun _ _ => rfl) hI (am_fa trivial hs.2))
      · cases h2
  | baload =>
    have hl : 1 = len := by rcases hl with h | h; cases h; exact h
    subst hl
    rcases am_ldF_inv he with ⟨y, a, r, v, rfl, h2, rfl, rfl⟩ | ⟨y, a, r, v, -, h2, -⟩
    · have hs := List.forall_mem_cons.mp (List.forall_mem_cons.mp hs).2
      exact am_sim_ld hx hb hK hty hI h2 (Or.inr ⟨rfl, rfl, hd⟩) (kk al H locs (fun _ _ => rfl) hI (am_fa trivial hs.2))
    · cases h2
  | iastore =>
    have hl : 1 = len := by rcases hl with h | h; cases h; exact h
    subst hl
    obtain ⟨v, y, a, rfl, h2⟩ := am_sdF_inv he
    have hs := List.forall_mem_cons.mp (List.forall_mem_cons.mp (List.forall_mem_cons.mp hs).2).2
    refine am_sim_sd hx hb hK hty hI h2 (Or.inl ⟨rfl, rfl, hd⟩) (fun H1 locs1 hI1 g1 => ?_)
    exact W.cs (by rw [g1]) (by rw [g1]) (kk al H1 locs1 (fun _ _ => rfl) hI1 (by rw [g1]; exact hs.2))
  | bastore =>
    have hl : 1 = len := by rcases hl with h | h; cases h; exact h
    subst hl
    obtain ⟨v, y, a, rfl, h2⟩ := am_sdF_inv he
    have hs := List.forall_mem_cons.mp (List.forall_mem_cons.mp (List.forall_mem_cons.mp hs).2).2
    refine am_sim_sd hx hb hK hty hI h2 (Or.inr ⟨rfl, rfl, hd⟩) (fun H1 locs1 hI1 g1 => ?_)
    exact W.cs (by rw [g1]) (by rw [g1]) (kk al H1 locs1 (fun _ _ => rfl) hI1 (by rw [g1]; exact hs.2))
  | aaload =>
    have hl : 1 = len := by rcases hl with h | h; cases h; exact h
    subst hl
    obtain ⟨y, a, r, j, rfl, h2, rfl, rfl⟩ := am_laF_inv he
    have hs := List.forall_mem_cons.mp (List.forall_mem_cons.mp hs).2
    exact am_sim_la hx hb hK hty hI h2 hd (fun hj => kk al H locs (fun _ _ => rfl) hI (am_fa hj hs.2))
  | aastore =>
    have hl : 1 = len := by rcases hl with h | h; cases h; exact h
    subst hl
    obtain ⟨j, y, a, rfl, h2⟩ := am_saF_inv he
    have hs := List.forall_mem_cons.mp (List.forall_mem_cons.mp (List.forall_mem_cons.mp hs).2).2
    refine am_sim_sa hx hb hK hty htc hI h2 hd (fun H1 locs1 hI1 g1 g2 => ?_)
    exact W.cs (by rw [g1]) (by rw [g2]) (kk al H1 locs1 (fun _ _ => rfl) hI1 (by rw [g1]; exact hs.2))
  | arraylength =>
    have hl : 1 = len := by rcases hl with h | h; cases h; exact h
    subst hl
    obtain ⟨q, a, r, hq, rfl, rfl, rfl⟩ := am_alF_inv he
    obtain ⟨g1, g2, g3⟩ := hsc q hq
    exact va_slen hx hb g1 g2 g3 hI.2.2.1 hd (kk al H locs (fun _ _ => rfl) hI (am_fa trivial (List.forall_mem_cons.mp hs).2))
  | newarray aty =>
    have hl : 2 = len := by rcases hl with h | h; cases h; exact h
    subst hl
    cases aty with
    | int =>
      obtain ⟨n, r, rfl, h1, rfl, rfl⟩ := am_mkI_inv he
      have hr := (List.forall_mem_cons.mp hs).2
      dsimp only at hc1 hc2 kk
      rw [hl1] at hc1 kk
      rw [hs1] at hc2 kk
      refine am_sim_newI (t := 0) hx hb hK hty hA hI h1 (Or.inl ⟨rfl, rfl, rfl⟩) rfl (hv.1 rfl) (by omega) (by simp only [am_sz] at hc2; omega) hd (fun q H1 hI1 => ?_)
      have := kk (va_up al h.1.length q) H1 locs (ag q) hI1 (up q r hr).1
      rw [(up q r hr).2] at this
      exact W.cs (by omega) (by simp only [am_sz]; omega) this
    | boolean =>
      obtain ⟨n, r, rfl, h1, rfl, rfl⟩ := am_mkI_inv he
      have hr := (List.forall_mem_cons.mp hs).2
      dsimp only at hc1 hc2 kk
      rw [hl1] at hc1 kk
      rw [hs1] at hc2 kk
      refine am_sim_newI (t := 1) hx hb hK hty hA hI h1 (Or.inr ⟨rfl, rfl, rfl⟩) rfl (hv.2 rfl) (by omega) (by simp only [am_sz] at hc2; omega) hd (fun q H1 hI1 => ?_)
      have := kk (va_up al h.1.length q) H1 locs (ag q) hI1 (up q r hr).1
      rw [(up q r hr).2] at this
      exact W.cs (by omega) (by simp only [am_sz]; omega) this
    | _ => cases he
  | anewarray x =>
    have hl : 3 = len := by rcases hl with h | h; cases h; exact h
    subst hl
    obtain ⟨t, n, r, ht, rfl, h1, rfl, rfl⟩ := am_mkA_inv he
    obtain ⟨C, g1, g2, g3⟩ := hv t ht
    have hr := (List.forall_mem_cons.mp hs).2
    dsimp only at hc1 hc2 kk
    rw [hl1] at hc1 kk
    rw [hs1] at hc2 kk
    refine am_sim_newA (t := t) hx hb hown hK hty hA hI h1 g1 g2 g3 (by omega) (by simp only [am_sz] at hc2; omega) hd (fun q H1 hI1 => ?_)
    have := kk (va_up al h.1.length q) H1 locs (ag q) hI1 (up q r hr).1
    rw [(up q r hr).2] at this
    exact W.cs (by omega) (by simp only [am_sz]; omega) this
  | multianewarray x k =>
    have hl : 4 = len := by rcases hl with h | h; cases h; exact h
    subst hl
    have he : (if k = 2 then am_mkG M x st h else none) = some (st', h') := he
    split at he
    · obtain ⟨t, k2, n, r, ht, rfl, h1, h2, rfl, rfl⟩ := am_mkG_inv he
      have hr := (List.forall_mem_cons.mp (List.forall_mem_cons.mp hs).2).2
      have e1 : ∀ tq : List am_D, (h.1 ++ tq).length = h.1.length + tq.length := fun tq => List.length_append
      dsimp only at hc1 hc2 kk
      rw [e1, List.length_append, List.length_replicate, List.length_singleton] at hc1 kk
      rw [am_slt_app, am_slt_grid] at hc2 kk
      refine hv t ht n k2 (r.map (am_rn al sb)) h al H locs lk Q h1 h2 hI hlk hn0 hs0 (by omega) (by omega) (fun al' H1 g1 hI1 => ?_)
      have := kk al' H1 locs g1 hI1 (am_fa (show h.1.length < _ by omega) (fun v hv => am_vw_up (by omega) (hr v hv)))
      rw [List.map_cons, am_rn_map hr g1] at this
      exact W.cs (by omega) (by omega) this
    · cases he
  | new x =>
    have hl : 3 = len := by rcases hl with h | h; cases h; exact h
    subst hl
    obtain ⟨q0, hq, rfl, rfl⟩ := am_mkO_inv he
    obtain ⟨ci, fl⟩ := q0
    dsimp only at hc1 hc2 kk
    rw [hl1] at hc1 kk
    rw [hs1] at hc2 kk
    refine am_sim_new (ci := ci) (fl := fl) hx hb hts hown hK hA hI (hv _ hq) (by omega) (by simp only [am_sz] at hc2; omega) hd (fun q H1 hI1 => ?_)
    have := kk (va_up al h.1.length q) H1 locs (ag q) hI1 (up q st hs).1
    rw [(up q st hs).2] at this
    exact W.cs (by omega) (by simp only [am_sz]; omega) this
  | _ => cases he
theorem am_sim (hx : p.tables.exec = Jvm.exec) (hb : c.code = cc) (hts : ∀ w ∈ Ts, w.before args s = true) (hown : s.vm.findClass own = some m.cls) (hK : va_K D cl tys s) (hty : ∀ t ty, am_ty t = some ty → tys[t]? = some (cy t, ty)) (htc : ∀ t ci, am_tyc t = some ci → ∃ r : vw_C, cl[ci]? = some r ∧ am_ty t = some (.object r.1)) (hA : ∀ q, s.heap.size ≤ q → A q)
    (hsc : ∀ q, am_scr M = some q → va_X sb q.1 q.2 s s.heap ∧ sb < s.heap.size ∧ ¬ A sb) (hV : ∀ pc i, am_code M pc = some i → am_V p l e R s m args below meth c cc Ts own A D cl cy sb nL n0 s0 M pc i) (hG : ∀ x q, am_cal M x = some q → am_grow q.2.2) {N : Nat} {rE : Option Value} {hE : am_H} {al0 : Nat → Nat} (hE1 : hE.1.length ≤ n0 + R.cells) (hE2 : am_slt hE.1 ≤ s0 + R.slots)
    (ret : ∀ (pc : Nat) (i : Instr) (st : List Value) (al : Nat → Nat) (H : Heap) (locs : List Loc) (lk : Array Slot), am_code M pc = some i → decode cc pc = .ok (i, 1) → am_R M i st = some rE → am_I A D cl cy s.heap al hE H locs → (∀ v ∈ st, am_vw hE.1.length v) → (∀ i, i < n0 → al i = al0 i) → W p l e R s m args below meth c H locs (hE.1.length - n0) (am_slt hE.1 - s0) Q (F0 m pc lk (st.map (am_rn al sb)))) :
    ∀ (n pc : Nat) (ls st : List Value) (h : am_H) (al : Nat → Nat) (H : Heap) (locs : List Loc) (lk : Array Slot), am_run M N n pc ls st h = some (rE, hE) → am_I A D cl cy s.heap al h H locs → am_L al sb h.1.length nL ls lk → (∀ v ∈ st, am_vw h.1.length v) → n0 ≤ h.1.length → s0 ≤ am_slt h.1 → (∀ i, i < n0 → al i = al0 i) →
      W p l e R s m args below meth c H locs (h.1.length - n0) (am_slt h.1 - s0) Q (F0 m pc lk (st.map (am_rn al sb)))
  | 0, _, _, _, _, _, _, _, _, he, _, _, _, _, _, _ => by cases he
  | n + 1, pc, ls, st, h, al, H, locs, lk, he, hI, hL, hs, hn0, hs0, hab => by
    cases hc : am_code M pc with
    | none => rw [am_run, hc] at he; cases he
    | some i =>
      have hv := hV pc i hc
      cases hr : am_R M i st with
      | some r =>
        rw [am_run_ret hc hr] at he
        cases he
        obtain ⟨⟨len, hd, hl⟩, -, -⟩ := hv
        have hl1 : len = 1 := by
          cases i with
          | ireturn => rcases hl with h | h; cases h; exact h.symm
          | areturn => rcases hl with h | h; cases h; exact h.symm
          | return_ => rcases hl with h | h; cases h; exact h.symm
          | _ => cases hr
        subst hl1
        exact ret pc i st al H locs lk hc hd hr hI hs hab
      | none =>
        cases hst : am_stp M N i pc ls st h with
        | none => rw [am_run_no hc hr hst] at he; cases he
        | some q =>
          rw [am_run_step hc hr hst] at he
          have gr := am_run_grow hG n _ _ _ _ rE hE he
          rcases am_stp_inv hst with ⟨ls', st', h1, rfl⟩ | ⟨pc', st', h1, rfl⟩ | ⟨st', h', h1, rfl⟩ | ⟨st', h', h1, rfl⟩
          · obtain ⟨⟨len, hd, hl⟩, hbd, -⟩ := hv
            have hd : decode cc pc = .ok (i, am_len i) := by
              rcases hl with hl | hl
              · cases i <;> first | (cases hl; done) | (cases h1; done) | skip
              · rw [hl]; exact hd
            exact am_simP hx hb hd hbd h1 hL hs (fun lk' hL' hs' => am_sim hx hb hts hown hK hty htc hA hsc hV hG hE1 hE2 ret n _ _ _ _ al H locs lk' he hI hL' hs' hn0 hs0 hab)
          · obtain ⟨⟨len, hd, hl⟩, hbd, -⟩ := hv
            exact am_simJ hx hb hd hl hbd h1 hs (fun hs' => am_sim hx hb hts hown hK hty htc hA hsc hV hG hE1 hE2 ret n _ _ _ _ al H locs lk he hI hL hs' hn0 hs0 hab)
          · have g1 := am_X_grow h1
            dsimp only at gr he
            exact am_simX hx hb hts hown hK hty htc hA hsc hv h1 hI hs hL.1 hn0 hs0 (by omega) (by omega) (fun al' H1 locs1 a1 hI1 hs1 => am_sim hx hb hts hown hK hty htc hA hsc hV hG hE1 hE2 ret n _ _ _ _ al' H1 locs1 lk he hI1 (am_L_up hL g1.1 a1) hs1 (by omega) (by omega) (fun i hi => (a1 i (by omega)).trans (hab i hi)))
          · obtain ⟨x, hi, h2⟩ := am_Y_inv h1
            obtain ⟨q, r2, as, rest, h3, rfl, h4, h5, h6, h7, rfl⟩ := am_callF_inv h2
            have g1 := hG x q h3 _ _ _ _ _ h7
            dsimp only at gr he
            have hco : am_cOK p l e R s m args below meth c A D cl cy sb nL n0 s0 pc q.1 q.2.1 q.2.2 := by
              rcases hi with rfl | rfl | rfl
              · exact hv.2.2 q h3
              · exact hv.2.2 q h3
              · exact hv.2.2 q h3
            have hs1 := List.forall_mem_append.mp hs
            refine hco N as rest h h' r2 al H locs lk Q h7 h4 h6 h5 hI (fun v hv => hs1.1 v (List.mem_reverse.mpr hv)) hs1.2 hL.1 hn0 hs0 g1.1 g1.2 (by omega) (by omega) (fun al' H1 locs1 a1 hI1 hr1 => ?_)
            refine am_sim hx hb hts hown hK hty htc hA hsc hV hG hE1 hE2 ret n _ _ _ _ al' H1 locs1 lk he hI1 (am_L_up hL g1.1 a1) ?_ (by omega) (by omega) (fun i hi => (a1 i (by omega)).trans (hab i hi))
            intro v hv
            rcases List.mem_append.mp hv with hv | hv
            · cases r2 with
              | none => cases hv
              | some w =>
                have : v = w := List.mem_singleton.mp hv
                subst this
                exact hr1 _ rfl
            · exact am_vw_up g1.1 (hs1.2 v hv)
end AMY
end
section
/-! A method's contract out of its run. -/
theorem am_args_mem : ∀ (vs : List Value) (j : Nat), (∀ v ∈ vs, v.category = 1) → ∀ (k : Nat) (v : Value), vs[k]? = some v → (j + k, v) ∈ lv_args j vs
  | [], _, _, k, v, h => by cases h
  | a :: vs, j, hc, k, v, h => by
    have h1 := List.forall_mem_cons.mp hc
    have e : lv_args j (a :: vs) = (j, a) :: lv_args (j + 1) vs := by
      simp [lv_args, h1.1]
    rw [e]
    cases k with
    | zero =>
      have h : some a = some v := h
      cases h
      exact List.mem_cons_self
    | succ k =>
      have := am_args_mem vs (j + 1) h1.2 k v h
      rw [show j + (k + 1) = j + 1 + k by omega]
      exact List.mem_cons_of_mem _ this
theorem am_sl_len : ∀ (vs : List Value), (∀ v ∈ vs, v.category = 1) → (lg_sl vs).length = vs.length
  | [], _ => rfl
  | a :: vs, h => by
    have h1 := List.forall_mem_cons.mp h
    have := am_sl_len vs h1.2
    simp [lg_sl, h1.1] at this ⊢
    omega
theorem am_entry {al : Nat → Nat} {sb n nL : Nat} {as : List Value} (hv : ∀ v ∈ as, am_vw n v) (hn : as.length ≤ nL) : am_L al sb n nL as ((lg_sl (as.map (am_rn al sb)) ++ List.replicate (nL - (lg_sl (as.map (am_rn al sb))).length) Slot.unset).toArray) := by
  have hc : ∀ v ∈ as.map (am_rn al sb), v.category = 1 := fun v h => by
    obtain ⟨w, hw, rfl⟩ := List.mem_map.mp h
    exact am_vw_cat al sb (hv w hw)
  have hl := lv_entry (as.map (am_rn al sb)) (n := nL) (by rw [am_sl_len _ hc, List.length_map]; exact hn)
  refine ⟨hl.1, hl.2.1, fun k v hk => ⟨?_, hv v (List.mem_of_getElem? hk)⟩⟩
  have := am_args_mem (as.map (am_rn al sb)) 0 hc k (am_rn al sb v) (by rw [List.getElem?_map, hk]; rfl)
  rw [Nat.zero_add] at this
  exact hl.2.2 _ this
theorem am_R_i {M : am_M} {st : List Value} {r : Option Value} (h : am_R M .ireturn st = some r) : ∃ x, st = [.int x] ∧ (am_ret M = 0 ∨ am_ret M = 1 ∧ (x = 0 ∨ x = 1)) ∧ r = some (.int x) := by
  unfold am_R at h
  dsimp only at h
  split at h
  · split at h
    · rename_i hq
      cases h
      exact ⟨_, rfl, hq, rfl⟩
    · cases h
  · cases h
theorem am_R_a {M : am_M} {st : List Value} {r : Option Value} (h : am_R M .areturn st = some r) : ∃ x, st = [.ref x] ∧ am_ret M = 3 ∧ r = some (.ref x) := by
  unfold am_R at h
  dsimp only at h
  split at h
  · split at h
    · rename_i hq
      cases h
      exact ⟨_, rfl, hq, rfl⟩
    · cases h
  · cases h
theorem am_R_v {M : am_M} {st : List Value} {r : Option Value} (h : am_R M .return_ st = some r) : st = [] ∧ am_ret M = 2 ∧ r = none := by
  unfold am_R at h
  dsimp only at h
  split at h
  · split at h
    · rename_i hq
      cases h
      exact ⟨rfl, hq, rfl⟩
    · cases h
  · cases h
/-- a method's function, with the number of its arguments -/
def am_mf (M : am_M) (na : Nat) : am_F := fun N as h => if as.length = na then am_run M N N 0 as [] h else none
theorem am_mf_mono {M : am_M} {na : Nat} (hM : am_ok M) : am_mono (am_mf M na) := by
  intro N N' as h x hN e
  unfold am_mf at e ⊢
  split at e
  · rename_i h1
    rw [if_pos h1]
    exact am_run_mono hM N N' N N' 0 as [] h x hN hN e
  · cases e
theorem am_mf_grow {M : am_M} {na : Nat} (hG : ∀ x q, am_cal M x = some q → am_grow q.2.2) : am_grow (am_mf M na) := by
  intro N as h r h' e
  unfold am_mf at e
  split at e
  · exact am_run_grow hG N 0 as [] h r h' e
  · cases e
theorem am_mf_C {M : am_M} {na : Nat} {as : List Value} {h : am_H} {Q : Option Value → am_H → Prop} (hn : as.length = na) : am_C (am_mf M na) as h Q ↔ am_W M 0 as [] h Q := by
  unfold am_C am_W am_mf
  simp only [if_pos hn]
abbrev am_ws (y : MethodName) (cc : ByteArray) (nL : Nat) (ret : Option FieldType) : List Jvm.Cond := .code y cc nL ret :: am_gt
/-- what a method's validity rests on -/
def am_Ctx (l : Launch) (y : MethodName) (cl : List vw_C) (cc : ByteArray) (nL fr lo : Nat) (M : am_M) : Prop :=
  ∀ (p : Program) (e : Env) (R : Room) (s : State) (m : MethodId) (args : Array Value) (below : List Frame) (meth : Method) (c : Code) (A : Nat → Prop) (D : va_G) (cy : Nat → ClassId) (tys : List (ClassId × FieldType)) (sb n0 s0 : Nat),
    CallFix p m c cc nL s args am_tb y.cls → am_NW s → meth.name = y.name → va_K D cl tys s → (∀ t ty, am_ty t = some ty → tys[t]? = some (cy t, ty)) → (∀ q, s.heap.size ≤ q → A q) → R.frames = fr → R.locals = lo →
    ∀ pc i, am_code M pc = some i → am_V p l e R s m args below meth c cc am_tb y.cls A D cl cy sb nL n0 s0 M pc i
theorem am_meth {l : Launch} {y : MethodName} {cl : List vw_C} {cc : ByteArray} {nL fr lo na : Nat} {ret : Option FieldType} {M : am_M} (hy : plainName y.cls = true) (hret : am_ret M = 0 ∧ ret = some .int ∨ am_ret M = 1 ∧ ret = some .boolean ∨ am_ret M = 2 ∧ ret = none ∨ am_ret M = 3 ∧ ∃ C, ret = some (.object C)) (hsc : am_scr M = none) (hna : na ≤ nL)
    (htc : ∀ t ci, am_tyc t = some ci → ∃ r : vw_C, cl[ci]? = some r ∧ am_ty t = some (.object r.1)) (hG : ∀ x q, am_cal M x = some q → am_grow q.2.2) (hV : am_Ctx l y cl cc nL fr lo M) : am_Sd l cl y (am_ws y cc nL ret) fr lo (am_mf M na) := by
  intro D cy tys N as h h' r al sb z hty he hva hwf hze
  unfold am_mf at he
  split at he
  · rename_i hn
    refine Met.ofW (cc := cc) (maxL := nL) (ret := ret) hy rfl ?_
    intro p e s m args below meth c s₁ B hml hv
    obtain ⟨rfl, hsz, hP, hK, hD0, hN⟩ := hv
    have hx := B.exec
    have hb := B.bytes
    have hr := B.returns
    have hts := am_all (fun w hw => atoms_spec (ws := am_ws y cc nL ret) B.pre w (List.mem_cons_of_mem _ hw)) hN
    have hown : s.vm.findClass y.cls = some m.cls := findClass_of_methodNamed B.named
    have hlocks := B.notSynchronized
    have hnm : meth.name = y.name := (name_of_methodNamed B.named B.method).1
    subst hsz
    have hA : ∀ q : Nat, s.heap.size ≤ q → va_A (am_wl cy al h) s.heap.size q := fun q h => Or.inr h
    have hI : am_I (va_A (am_wl cy al h) s.heap.size) D cl cy s.heap al h s.heap [] := ⟨hP, hD0.self, va_S.rf, hwf, hze⟩
    have gr := am_run_grow hG N 0 as [] h r h' he
    rw [lg_entry_eq]
    refine W.cs (Nat.sub_self h.1.length).symm (Nat.sub_self (am_slt h.1)).symm ?_
    refine am_sim (M := M) (N := N) (rE := r) (hE := h') (al0 := al) (n0 := h.1.length) (s0 := am_slt h.1) (sb := sb) hx hb hts hown hK hty htc hA (fun q hq => by rw [hsc] at hq; cases hq) (hV p e _ s m _ below meth c _ D cy tys sb _ _ ⟨hx, hb, hml, hown, hts⟩ hN hnm hK hty hA rfl rfl) hG (by show h'.1.length ≤ h.1.length + (h'.1.length - h.1.length); omega) (by show am_slt h'.1 ≤ am_slt h.1 + (am_slt h'.1 - am_slt h.1); omega) ?_ N 0 as [] h al s.heap [] _ he hI (am_entry hva (by omega)) (fun v hv => by cases hv) (Nat.le_refl _) (Nat.le_refl _) (fun _ _ => rfl)
    intro pc i st al' H locs lk hc hd hR hI' hs hab
    have fin : ∀ (t : State), t.heap = H → (∀ v, r = some v → am_vw h'.1.length v) → am_Q D cl cy al sb h h' r s.heap.size ((as.map (am_rn al sb)).toArray) s (.returned (r.map (am_rn al' sb))) t := fun t ht hvw =>
      ⟨⟨al', hab, rfl, hvw, by rw [ht]; exact hI'.1, hI'.2.1, hI'.2.2.2.1, hI'.2.2.2.2⟩, hI'.2.2.1.F ht⟩
    cases i with
    | ireturn =>
      obtain ⟨x, rfl, hq, rfl⟩ := am_R_i hR
      rcases hret with ⟨h1, h2⟩ | ⟨h1, h2⟩ | ⟨h1, -⟩ | ⟨h1, -⟩
      · exact W.iret hx hb (hr.trans h2) (fun t ht _ => fin t ht (fun v hv => by cases hv; trivial)) hI'.2.2.1.2.2 hd
      · have hq : x = 0 ∨ x = 1 := by
          rcases hq with hq | hq
          · rw [h1] at hq; cases hq
          · exact hq.2
        exact W.zret hx hb (hr.trans h2) (by show Value.int (x &&& 1) = _; rw [am_one_nar hq]) (fun t ht _ => fin t ht (fun v hv => by cases hv; trivial)) hI'.2.2.1.2.2 hd
      · rcases hq with hq | hq
        · rw [h1] at hq; cases hq
        · rw [h1] at hq; cases hq.1
      · rcases hq with hq | hq
        · rw [h1] at hq; cases hq
        · rw [h1] at hq; cases hq.1
    | areturn =>
      obtain ⟨x, rfl, hq, rfl⟩ := am_R_a hR
      rcases hret with ⟨h1, -⟩ | ⟨h1, -⟩ | ⟨h1, -⟩ | ⟨h1, C, h2⟩
      · rw [h1] at hq; cases hq
      · rw [h1] at hq; cases hq
      · rw [h1] at hq; cases hq
      · exact W.aret hx hb (hr.trans h2) (Or.inl ⟨C, rfl⟩) (Or.inr ⟨_, rfl⟩) (fun t ht _ => fin t ht (fun v hv => by cases hv; exact hs _ List.mem_cons_self)) hI'.2.2.1.2.2 hd
    | return_ =>
      obtain ⟨rfl, hq, rfl⟩ := am_R_v hR
      rcases hret with ⟨h1, -⟩ | ⟨h1, -⟩ | ⟨h1, h2⟩ | ⟨h1, -⟩
      · rw [h1] at hq; cases hq
      · rw [h1] at hq; cases hq
      · exact W.vret hx hb (hr.trans h2) (fun t ht _ => fin t ht (fun v hv => by cases hv)) hI'.2.2.1.2.2 hd
      · rw [h1] at hq; cases hq
    | _ => cases hR
  · cases he
end
section
/-! A method's tables, checked by a program. -/
def am_mk (co : List (Nat × Instr)) (fl : List (Nat × Nat × Nat × Nat)) (ca : List (Nat × Nat × Option Nat × am_F)) (ne : List (Nat × Nat × List (Option (Option Nat)))) (ar : List (Nat × Nat)) (sc : Option (Nat × (Nat → Int32))) (re : Nat) : am_M :=
  (fun x => co.lookup x, fun x => fl.lookup x, fun x => ca.lookup x, fun x => ne.lookup x, fun x => ar.lookup x, sc, re)
theorem am_lookup_mem {β : Type} {x : Nat} {b : β} : ∀ {L : List (Nat × β)}, L.lookup x = some b → (x, b) ∈ L
  | [], h => by cases h
  | (k, c) :: L, h => by
    unfold List.lookup at h
    split at h
    · rename_i hk
      cases h
      have hk : x = k := by simpa using hk
      subst hk
      exact List.mem_cons_self
    · exact List.mem_cons_of_mem _ (am_lookup_mem h)
theorem am_mk_ok {co : List (Nat × Instr)} {fl : List (Nat × Nat × Nat × Nat)} {ca : List (Nat × Nat × Option Nat × am_F)} {ne : List (Nat × Nat × List (Option (Option Nat)))} {ar : List (Nat × Nat)} {sc : Option (Nat × (Nat → Int32))} {re : Nat} (h : ∀ q ∈ ca, am_mono q.2.2.2) : am_ok (am_mk co fl ca ne ar sc re) :=
  fun x q hq => h (x, q) (am_lookup_mem hq)
theorem am_mk_grow {co : List (Nat × Instr)} {fl : List (Nat × Nat × Nat × Nat)} {ca : List (Nat × Nat × Option Nat × am_F)} {ne : List (Nat × Nat × List (Option (Option Nat)))} {ar : List (Nat × Nat)} {sc : Option (Nat × (Nat → Int32))} {re : Nat} (h : ∀ q ∈ ca, am_grow q.2.2.2) : ∀ x q, am_cal (am_mk co fl ca ne ar sc re) x = some q → am_grow q.2.2 :=
  fun x q hq => h (x, q) (am_lookup_mem hq)
def am_in (Ts : List Jvm.Cond) (w : Jvm.Cond) : Bool := decide (w ∈ Ts)
def am_ckL (Ts : List Jvm.Cond) (own host : String) (x : Nat) (C nm d : String) : Bool := am_in Ts (.fieldLink own x C nm d) || am_in Ts (.fieldLinkNest own x C nm d host)
def am_ckW (Ts : List Jvm.Cond) (C : String) (T : u_T) (Nf : Nat) : Bool := (u_ws C T Nf).all (fun w => am_in Ts w)
def am_ckG (cl : List vw_C) (Ts : List Jvm.Cond) (own host : String) (x ci k : Nat) : Bool := match cl[ci]? with
  | some (C, T, Nf) => decide (k < Nf) && (am_ckW Ts C T Nf && (decide ((T k).1 = C) && am_ckL Ts own host x C (T k).2.1 (T k).2.2.1))
  | none => false
def am_pty (T : u_T) (j : Nat) : FieldType := (parseFieldDescriptor (T j).2.2.1).getD .int
def am_ckT (T : u_T) (Nf : Nat) : Bool := (List.range Nf).all (fun j => (parseFieldDescriptor (T j).2.2.1).isSome)
def am_ckP (cl : List vw_C) (Ts : List Jvm.Cond) (own host : String) (ini : Bool) (x ci k kd : Nat) : Bool := match cl[ci]? with
  | some (C, T, Nf) => decide (k < Nf) && (am_ckW Ts C T Nf && (decide ((T k).1 = C) && (am_ckT T Nf && ((List.range Nf).all (fun a => (List.range Nf).all (fun b => decide (a = b) || decide ((T a).2.1 ≠ (T b).2.1))) &&
      ((decide (kd = 0) && decide (am_pty T k = .int) || (decide (kd = 1) && decide (am_pty T k = .boolean) || decide (kd = 2) && (am_pty T k).isReference)) &&
       (decide ((T k).2.2.2 = false) && am_ckL Ts own host x C (T k).2.1 (T k).2.2.1 || decide ((T k).2.2.2 = true) && (ini && (decide (C = own) && am_in Ts (.fieldLink own x C (T k).2.1 (T k).2.2.1)))))))))
  | none => false
def am_ckN (cl : List vw_C) (Ts : List Jvm.Cond) (own : String) (x ci : Nat) (fl : List (Option (Option Nat))) : Bool := match cl[ci]? with
  | some (C, T, Nf) => am_ckW Ts C T Nf && (am_ckT T Nf && (am_in Ts (.classLink own x C) && (am_in Ts (.instantiable C Nf) && (am_in Ts (.initialized C) && (decide (fl.length = Nf) &&
      (List.range Nf).all (fun j => decide (fl[j]? = some none) && decide (defaultValue (am_pty T j) = .int 0) || decide (fl[j]? = some (some none)) && decide (defaultValue (am_pty T j) = .null)))))))
  | none => false
def am_ckA (Ts : List Jvm.Cond) (own : String) (x t : Nat) : Bool := match am_ty t with
  | some (.object C) => am_in Ts (.classLink own x C) && am_in Ts (.arrayOver (.object C))
  | _ => false
def am_ckI (Ts : List Jvm.Cond) (kd : Nat → Option Instr) (pl al : List Nat) (i : Instr) : Bool := match i with
  | .putfield x => pl.contains x
  | .anewarray x => al.contains x
  | .newarray .int => am_in Ts (.arrayClass .int)
  | .newarray .boolean => am_in Ts (.arrayClass .boolean)
  | .newarray _ => true
  | .invokevirtual x => decide (kd x = some (.invokevirtual x))
  | .invokespecial x => decide (kd x = some (.invokespecial x))
  | .invokestatic x => decide (kd x = some (.invokestatic x))
  | _ => true
def am_ckD (cc : ByteArray) (nL : Nat) (q : Nat × Instr) : Bool := (match decode cc q.1 with
  | .ok z => decide (z.1 = q.2) && (decide (am_len z.1 = 0) || decide (am_len z.1 = z.2))
  | .error _ => false) && am_bd nL q.1 q.2
theorem am_ckD_ok {cc : ByteArray} {nL : Nat} {q : Nat × Instr} (h : am_ckD cc nL q = true) : (∃ len, decode cc q.1 = .ok (q.2, len) ∧ (am_len q.2 = 0 ∨ am_len q.2 = len)) ∧ am_bd nL q.1 q.2 = true := by
  unfold am_ckD at h
  rw [Bool.and_eq_true] at h
  refine ⟨?_, h.2⟩
  have h := h.1
  split at h
  · rename_i z hz
    rw [Bool.and_eq_true, Bool.or_eq_true] at h
    obtain ⟨i, len⟩ := z
    have h1 : i = q.2 := of_decide_eq_true h.1
    subst h1
    exact ⟨len, hz, h.2.imp of_decide_eq_true of_decide_eq_true⟩
  · cases h
section AMK
variable {cl : List vw_C} {Ts ws : List Jvm.Cond} {own host : String} {args : Array Value} {s : State} {meth : Method} {x ci k kd : Nat}
theorem am_in_ok {w : Jvm.Cond} (hts : ∀ w ∈ ws, w.before args s = true) (hsub : ∀ w ∈ Ts, w ∈ ws) (h : am_in Ts w = true) : w.before args s = true := hts _ (hsub _ (of_decide_eq_true h))
theorem am_ckL_ok {C nm d : String} (hts : ∀ w ∈ ws, w.before args s = true) (hsub : ∀ w ∈ Ts, w ∈ ws) (h : am_ckL Ts own host x C nm d = true) : am_lk own args s x C nm d := by
  unfold am_ckL at h
  rw [Bool.or_eq_true] at h
  rcases h with h | h
  · exact Or.inl (am_in_ok hts hsub h)
  · exact Or.inr ⟨host, am_in_ok hts hsub h⟩
theorem am_ckW_ok {C : String} {T : u_T} {Nf : Nat} (hsub : ∀ w ∈ Ts, w ∈ ws) (h : am_ckW Ts C T Nf = true) : ∀ w ∈ u_ws C T Nf, w ∈ ws := fun w hw => hsub _ (of_decide_eq_true (List.all_eq_true.mp h w hw))
theorem am_ckT_ok {T : u_T} {Nf : Nat} (h : am_ckT T Nf = true) : ∀ k, k < Nf → parseFieldDescriptor (T k).2.2.1 = some (am_pty T k) := fun k hk => by
  have := List.all_eq_true.mp h k (List.mem_range.mpr hk)
  unfold am_pty
  cases hp : parseFieldDescriptor (T k).2.2.1 with
  | none => rw [hp] at this; cases this
  | some t => rfl
theorem am_ckG_ok (hts : ∀ w ∈ ws, w.before args s = true) (hsub : ∀ w ∈ Ts, w ∈ ws) (h : am_ckG cl Ts own host x ci k = true) : am_gOK cl ws own args s x ci k := by
  unfold am_ckG at h
  split at h
  · rename_i C T Nf hc
    simp only [Bool.and_eq_true] at h
    obtain ⟨h1, h2, h3, h4⟩ := h
    exact ⟨C, T, Nf, hc, of_decide_eq_true h1, am_ckW_ok hsub h2, of_decide_eq_true h3, am_ckL_ok hts hsub h4⟩
  · cases h
theorem am_ckP_ok {ini : Bool} (hts : ∀ w ∈ ws, w.before args s = true) (hsub : ∀ w ∈ Ts, w ∈ ws) (hi : ini = true → meth.name = "<init>") (h : am_ckP cl Ts own host ini x ci k kd = true) : am_pOK cl ws own args s meth x ci k kd := by
  unfold am_ckP at h
  split at h
  · rename_i C T Nf hc
    simp only [Bool.and_eq_true, Bool.or_eq_true] at h
    obtain ⟨h1, h2, h3, h4, h5, h6, h7⟩ := h
    refine ⟨C, T, Nf, am_pty T, hc, of_decide_eq_true h1, am_ckW_ok hsub h2, of_decide_eq_true h3, am_ckT_ok h4, fun a ha b hb hab => ?_, ?_, ?_⟩
    · have := List.all_eq_true.mp (List.all_eq_true.mp h5 a (List.mem_range.mpr ha)) b (List.mem_range.mpr hb)
      rw [Bool.or_eq_true] at this
      rcases this with h | h
      · exact absurd (of_decide_eq_true h) hab
      · exact of_decide_eq_true h
    · rcases h6 with h | h | h
      · exact Or.inl ⟨of_decide_eq_true h.1, of_decide_eq_true h.2⟩
      · exact Or.inr (Or.inl ⟨of_decide_eq_true h.1, of_decide_eq_true h.2⟩)
      · exact Or.inr (Or.inr ⟨of_decide_eq_true h.1, h.2⟩)
    · rcases h7 with h | h
      · exact Or.inl ⟨of_decide_eq_true h.1, am_ckL_ok hts hsub h.2⟩
      · exact Or.inr ⟨of_decide_eq_true h.1, hi h.2.1, of_decide_eq_true h.2.2.1, am_in_ok hts hsub h.2.2.2⟩
  · cases h
theorem am_ckN_ok {fl : List (Option (Option Nat))} (hts : ∀ w ∈ ws, w.before args s = true) (hsub : ∀ w ∈ Ts, w ∈ ws) (h : am_ckN cl Ts own x ci fl = true) : am_nOK cl ws own args s x ci fl := by
  unfold am_ckN at h
  split at h
  · rename_i C T Nf hc
    simp only [Bool.and_eq_true] at h
    obtain ⟨h1, h2, h3, h4, h5, h6, h7⟩ := h
    refine ⟨C, T, Nf, am_pty T, hc, am_ckW_ok hsub h1, am_ckT_ok h2, am_in_ok hts hsub h3, am_in_ok hts hsub h4, am_in_ok hts hsub h5, of_decide_eq_true h6, fun j hj => ?_⟩
    have := List.all_eq_true.mp h7 j (List.mem_range.mpr hj)
    simp only [Bool.and_eq_true, Bool.or_eq_true] at this
    rcases this with h | h
    · exact Or.inl ⟨of_decide_eq_true h.1, of_decide_eq_true h.2⟩
    · exact Or.inr ⟨of_decide_eq_true h.1, of_decide_eq_true h.2⟩
  · cases h
end AMK
/-- a call's entry, good at each of its places -/
def am_K (l : Launch) (y : MethodName) (cl : List vw_C) (cc : ByteArray) (nL fr lo : Nat) (z : Instr × Nat × Nat × Option Nat × am_F) : Prop :=
  ∀ (p : Program) (e : Env) (R : Room) (s : State) (m : MethodId) (args : Array Value) (below : List Frame) (meth : Method) (c : Code) (A : Nat → Prop) (D : va_G) (cy : Nat → ClassId) (tys : List (ClassId × FieldType)) (sb n0 s0 pc : Nat),
    CallFix p m c cc nL s args am_tb y.cls → am_NW s → va_K D cl tys s → (∀ t ty, am_ty t = some ty → tys[t]? = some (cy t, ty)) → (∀ q, s.heap.size ≤ q → A q) → R.frames = fr → R.locals = lo → decode cc pc = .ok (z.1, 3) →
    am_cOK p l e R s m args below meth c A D cl cy sb nL n0 s0 pc z.2.2.1 z.2.2.2.1 z.2.2.2.2
def am_Kg (l : Launch) (y : MethodName) (cl : List vw_C) (cc : ByteArray) (nL : Nat) (x t : Nat) : Prop :=
  ∀ (p : Program) (e : Env) (R : Room) (s : State) (m : MethodId) (args : Array Value) (below : List Frame) (meth : Method) (c : Code) (A : Nat → Prop) (D : va_G) (cy : Nat → ClassId) (tys : List (ClassId × FieldType)) (n0 s0 pc : Nat),
    CallFix p m c cc nL s args am_tb y.cls → am_NW s → va_K D cl tys s → (∀ t ty, am_ty t = some ty → tys[t]? = some (cy t, ty)) → (∀ q, s.heap.size ≤ q → A q) → decode cc pc = .ok (.multianewarray x 2, 4) →
    am_GOK p l e R s m args below meth c A D cl cy nL n0 s0 pc t
theorem am_cb_lookup {x : Nat} {i : Instr} {q : Nat × Option Nat × am_F} : ∀ {cb : List (Instr × Nat × Nat × Option Nat × am_F)}, (cb.map (fun z => (z.2.1, z.1))).lookup x = some i → (cb.map (fun z => z.2)).lookup x = some q → ∃ z ∈ cb, z.1 = i ∧ z.2.2 = q
  | [], h, _ => by cases h
  | z :: cb, h, h2 => by
    rw [List.map_cons, List.lookup] at h h2
    cases hk : x == z.2.1 with
    | true =>
      rw [hk] at h h2
      cases h
      cases h2
      exact ⟨z, List.mem_cons_self, rfl, rfl⟩
    | false =>
      rw [hk] at h h2
      obtain ⟨w, hw, e1, e2⟩ := am_cb_lookup h h2
      exact ⟨w, List.mem_cons_of_mem _ hw, e1, e2⟩
def am_ck (cl : List vw_C) (Ts : List Jvm.Cond) (own host : String) (ini : Bool) (cc : ByteArray) (nL : Nat) (co : List (Nat × Instr)) (fl : List (Nat × Nat × Nat × Nat)) (kl : List (Nat × Instr)) (ne : List (Nat × Nat × List (Option (Option Nat)))) (ar : List (Nat × Nat)) (pl al : List Nat) : Bool :=
  co.all (fun q => am_ckD cc nL q && am_ckI Ts (fun x => kl.lookup x) pl al q.2) && (fl.all (fun q => am_ckG cl Ts own host q.1 q.2.1 q.2.2.1) && (pl.all (fun x => match fl.lookup x with
    | some q => am_ckP cl Ts own host ini x q.1 q.2.1 q.2.2
    | none => true) && (ne.all (fun q => am_ckN cl Ts own q.1 q.2.1 q.2.2) && al.all (fun x => match ar.lookup x with
    | some t => am_ckA Ts own x t
    | none => true))))
theorem am_ctx {l : Launch} {y : MethodName} {cl : List vw_C} {cc : ByteArray} {nL fr lo : Nat} {co : List (Nat × Instr)} {fl : List (Nat × Nat × Nat × Nat)} {cb : List (Instr × Nat × Nat × Option Nat × am_F)} {ne : List (Nat × Nat × List (Option (Option Nat)))} {ar : List (Nat × Nat)} {sc : Option (Nat × (Nat → Int32))} {re : Nat} (Ts : List Jvm.Cond) (kl : List (Nat × Instr)) (host : String) (ini : Bool) (pl al : List Nat) (hsub : ∀ w ∈ Ts, w ∈ am_tb)
    (hk : kl = cb.map (fun z => (z.2.1, z.1))) (hck : am_ck cl Ts y.cls host ini cc nL co fl kl ne ar pl al = true) (hini : ini = true → y.name = "<init>") (hcal : ∀ z ∈ cb, am_K l y cl cc nL fr lo z) (hgr : ∀ x t, ar.lookup x = some t → x ∉ al → am_Kg l y cl cc nL x t) (hdm : co.all (fun q => match q.2 with
      | .multianewarray x k => decide (k = 2) && !al.contains x
      | _ => true) = true) : am_Ctx l y cl cc nL fr lo (am_mk co fl (cb.map (fun z => z.2)) ne ar sc re) := by
  subst hk
  intro p e R s m args below meth c A D cy tys sb n0 s0 S hN hnm hK hty hA hR1 hR2 pc i hi
  unfold am_ck at hck
  simp only [Bool.and_eq_true] at hck
  obtain ⟨c1, c2, c3, c4, c5⟩ := hck
  have hmem : (pc, i) ∈ co := am_lookup_mem hi
  have d1 := List.all_eq_true.mp c1 _ hmem
  rw [Bool.and_eq_true] at d1
  obtain ⟨e1, e2⟩ := am_ckD_ok d1.1
  have d2 := d1.2
  have hts := S.2.2.2.2
  have call : ∀ x (q : Nat × Option Nat × am_F), (cb.map (fun z => (z.2.1, z.1))).lookup x = some i → am_len i = 3 → (cb.map (fun z => z.2)).lookup x = some q → am_cOK p l e R s m args below meth c A D cl cy sb nL n0 s0 pc q.1 q.2.1 q.2.2 := by
    intro x q h1 h3 h2
    obtain ⟨z, hz, g1, g2⟩ := am_cb_lookup h1 h2
    subst g1
    subst g2
    obtain ⟨len, g3, g4⟩ := e1
    have g5 : len = 3 := by
      dsimp only at g4
      rcases g4 with g4 | g4 <;> omega
    subst g5
    exact hcal z hz p e R s m args below meth c A D cy tys sb n0 s0 pc S hN hK hty hA hR1 hR2 g3
  refine ⟨e1, e2, ?_⟩
  cases i with
  | getfield x =>
    intro q hq
    exact am_ckG_ok hts hsub (List.all_eq_true.mp c2 _ (am_lookup_mem hq))
  | putfield x =>
    intro q hq
    have hq : fl.lookup x = some q := hq
    have hx : x ∈ pl := by simpa [am_ckI] using d2
    have := List.all_eq_true.mp c3 x hx
    rw [hq] at this
    exact am_ckP_ok hts hsub (fun h => hnm.trans (hini h)) this
  | new x =>
    intro q hq
    exact am_ckN_ok hts hsub (List.all_eq_true.mp c4 _ (am_lookup_mem hq))
  | newarray t =>
    refine ⟨fun h => ?_, fun h => ?_⟩
    · subst h; exact am_in_ok hts hsub d2
    · subst h; exact am_in_ok hts hsub d2
  | anewarray x =>
    intro t ht
    have ht : ar.lookup x = some t := ht
    have hx : x ∈ al := by simpa [am_ckI] using d2
    have := List.all_eq_true.mp c5 x hx
    rw [ht] at this
    have this : am_ckA Ts y.cls x t = true := this
    unfold am_ckA at this
    split at this
    · rename_i C hC
      rw [Bool.and_eq_true] at this
      exact ⟨C, hC, am_in_ok hts hsub this.1, am_in_ok hts hsub this.2⟩
    · cases this
  | multianewarray x k =>
    intro t ht
    have := List.all_eq_true.mp hdm _ hmem
    simp only [Bool.and_eq_true] at this
    have hk2 : k = 2 := of_decide_eq_true this.1
    subst hk2
    obtain ⟨len, g3, g4⟩ := e1
    have g5 : len = 4 := by rcases g4 with g4 | g4; cases g4; exact g4.symm
    subst g5
    exact hgr x t ht (by simpa using this.2) p e R s m args below meth c A D cy tys n0 s0 pc S hN hK hty hA g3
  | invokevirtual x => intro q hq; exact call x q (of_decide_eq_true d2) rfl hq
  | invokespecial x => intro q hq; exact call x q (of_decide_eq_true d2) rfl hq
  | invokestatic x => intro q hq; exact call x q (of_decide_eq_true d2) rfl hq
  | _ => trivial
end
section
/-! Calls of our own methods: every contract has the whole table's words. -/
theorem am_goodIn {y : MethodName} {cc : ByteArray} {nL : Nat} {ret : Option FieldType} (h : Cond.code y cc nL ret ∈ am_tb) : GoodIn am_tb (am_ws y cc nL ret) := by
  intro w hwi
  rcases List.mem_cons.mp hwi with rfl | h2
  · exact ⟨h, good_of_word rfl⟩
  · have h3 := List.mem_filter.mp h2
    exact ⟨List.mem_filter.mpr ⟨h3.1, by rw [h3.2]; rfl⟩, good_of_word h3.2⟩
/-- numbers of a call -/
def am_ckC (y : MethodName) (nL fr lo nL2 fr2 lo2 na : Nat) (y2 : MethodName) : Bool :=
  decide (y2.cls ≠ "java/lang/invoke/MethodHandle") && (decide (y2.cls ≠ "java/lang/invoke/VarHandle") && (decide ((parseMethodDescriptor y2.desc).map (fun d => d.parameters.length) = some na) && (decide (fr2 + 1 ≤ fr) && decide (8 + (nL2 + 11) + lo2 ≤ lo))))
section AMCC
variable {l : Launch} {y y2 : MethodName} {cl : List vw_C} {cc cc2 : ByteArray} {nL fr lo nL2 fr2 lo2 na x ci : Nat} {ret2 : Option FieldType} {Ts : List Jvm.Cond} {f : am_F} {host : String} {T : u_T} {Nf : Nat}
theorem am_KV (hsub : ∀ w ∈ Ts, w ∈ am_tb) (hSd : am_Sd l cl y2 (am_ws y2 cc2 nL2 ret2) fr2 lo2 f) (hci : cl[ci]? = some (y2.cls, T, Nf)) (hn : am_ckC y nL fr lo nL2 fr2 lo2 na y2 = true)
    (hw : (am_in Ts (.code y2 cc2 nL2 ret2) && (am_in Ts (.methodLink y.cls x y2) && (am_in Ts (.instanceMethod y2) && (am_in Ts (.selects y2.cls y2 y2) && am_in Ts (.initialized y2.cls))))) = true) :
    am_K l y cl cc nL fr lo (.invokevirtual x, x, na + 1, some ci, f) := by
  intro p e R s m args below meth c A D cy tys sb n0 s0 pc S hN hK hty hA hR1 hR2 hd
  simp only [Bool.and_eq_true] at hw
  obtain ⟨w1, w2, w3, w4, w5⟩ := hw
  unfold am_ckC at hn
  simp only [Bool.and_eq_true] at hn
  obtain ⟨n1, n2, n3, n4, n5⟩ := hn
  have hts := S.2.2.2.2
  have hG := am_goodIn (hsub _ (of_decide_eq_true w1))
  refine am_cV (bytes := cc2) (maxL := nL2) (ret := ret2) S hK hN hty hA hSd hci (fun mc ms => ⟨callB_of na hts hG rfl rfl rfl (am_in_ok hts hsub w5) (am_in_ok hts hsub w2) ⟨of_decide_eq_true n1, of_decide_eq_true n2, of_decide_eq_true n3⟩ ⟨?_, ?_⟩, am_in_ok hts hsub w3, am_in_ok hts hsub w4⟩) hd
  · rw [hR1]; exact of_decide_eq_true n4
  · rw [hR2]; exact of_decide_eq_true n5
theorem am_KVN (hsub : ∀ w ∈ Ts, w ∈ am_tb) (hSd : am_Sd l cl y2 (am_ws y2 cc2 nL2 ret2) fr2 lo2 f) (hci : cl[ci]? = some (y2.cls, T, Nf)) (hn : am_ckC y nL fr lo nL2 fr2 lo2 na y2 = true)
    (hw : (am_in Ts (.code y2 cc2 nL2 ret2) && (am_in Ts (.methodLinkNest y.cls x y2 host) && (am_in Ts (.instanceMethod y2) && (am_in Ts (.selects y2.cls y2 y2) && am_in Ts (.initialized y2.cls))))) = true) :
    am_K l y cl cc nL fr lo (.invokevirtual x, x, na + 1, some ci, f) := by
  intro p e R s m args below meth c A D cy tys sb n0 s0 pc S hN hK hty hA hR1 hR2 hd
  simp only [Bool.and_eq_true] at hw
  obtain ⟨w1, w2, w3, w4, w5⟩ := hw
  unfold am_ckC at hn
  simp only [Bool.and_eq_true] at hn
  obtain ⟨n1, n2, n3, n4, n5⟩ := hn
  have hts := S.2.2.2.2
  have hG := am_goodIn (hsub _ (of_decide_eq_true w1))
  refine am_cVN (host := host) (bytes := cc2) (maxL := nL2) (ret := ret2) S hK hN hty hA hSd hci (fun mc ms => ⟨va_cnB na hts hG rfl rfl rfl (va_any rfl (am_in_ok hts hsub w2)) (am_in_ok hts hsub w5) ⟨of_decide_eq_true n1, of_decide_eq_true n2, of_decide_eq_true n3⟩ ⟨?_, ?_⟩, am_in_ok hts hsub w3, am_in_ok hts hsub w4⟩) hd
  · rw [hR1]; exact of_decide_eq_true n4
  · rw [hR2]; exact of_decide_eq_true n5
theorem am_KS (hsub : ∀ w ∈ Ts, w ∈ am_tb) (hSd : am_Sd l cl y2 (am_ws y2 cc2 nL2 ret2) fr2 lo2 f) (hn : am_ckC y nL fr lo nL2 fr2 lo2 na y2 = true)
    (hw : (am_in Ts (.code y2 cc2 nL2 ret2) && (am_in Ts (.methodLink y.cls x y2) && (am_in Ts (.static y2) && am_in Ts (.initialized y2.cls)))) = true) :
    am_K l y cl cc nL fr lo (.invokestatic x, x, na, none, f) := by
  intro p e R s m args below meth c A D cy tys sb n0 s0 pc S hN hK hty hA hR1 hR2 hd
  simp only [Bool.and_eq_true] at hw
  obtain ⟨w1, w2, w3, w5⟩ := hw
  unfold am_ckC at hn
  simp only [Bool.and_eq_true] at hn
  obtain ⟨n1, n2, n3, n4, n5⟩ := hn
  have hts := S.2.2.2.2
  have hG := am_goodIn (hsub _ (of_decide_eq_true w1))
  refine am_cS (bytes := cc2) (maxL := nL2) (ret := ret2) S hK hN hty hA hSd (fun mc ms => ⟨callB_of na hts hG rfl rfl rfl (am_in_ok hts hsub w5) (am_in_ok hts hsub w2) ⟨of_decide_eq_true n1, of_decide_eq_true n2, of_decide_eq_true n3⟩ ⟨?_, ?_⟩, am_in_ok hts hsub w3⟩) hd
  · rw [hR1]; exact of_decide_eq_true n4
  · rw [hR2]; exact of_decide_eq_true n5
theorem am_KSN (hsub : ∀ w ∈ Ts, w ∈ am_tb) (hSd : am_Sd l cl y2 (am_ws y2 cc2 nL2 ret2) fr2 lo2 f) (hn : am_ckC y nL fr lo nL2 fr2 lo2 na y2 = true)
    (hw : (am_in Ts (.code y2 cc2 nL2 ret2) && (am_in Ts (.methodLinkNest y.cls x y2 host) && (am_in Ts (.static y2) && am_in Ts (.initialized y2.cls)))) = true) :
    am_K l y cl cc nL fr lo (.invokestatic x, x, na, none, f) := by
  intro p e R s m args below meth c A D cy tys sb n0 s0 pc S hN hK hty hA hR1 hR2 hd
  simp only [Bool.and_eq_true] at hw
  obtain ⟨w1, w2, w3, w5⟩ := hw
  unfold am_ckC at hn
  simp only [Bool.and_eq_true] at hn
  obtain ⟨n1, n2, n3, n4, n5⟩ := hn
  have hts := S.2.2.2.2
  have hG := am_goodIn (hsub _ (of_decide_eq_true w1))
  refine am_cSN (host := host) (bytes := cc2) (maxL := nL2) (ret := ret2) S hK hN hty hA hSd (fun mc ms => ⟨va_cnB na hts hG rfl rfl rfl (va_any rfl (am_in_ok hts hsub w2)) (am_in_ok hts hsub w5) ⟨of_decide_eq_true n1, of_decide_eq_true n2, of_decide_eq_true n3⟩ ⟨?_, ?_⟩, am_in_ok hts hsub w3, trivial⟩) hd
  · rw [hR1]; exact of_decide_eq_true n4
  · rw [hR2]; exact of_decide_eq_true n5
theorem am_KI (hsub : ∀ w ∈ Ts, w ∈ am_tb) (hSd : am_Sd l cl y2 (am_ws y2 cc2 nL2 none) fr2 lo2 f) (hy : y2.name = "<init>") (hn : am_ckC y nL fr lo nL2 fr2 lo2 na y2 = true)
    (hw : (am_in Ts (.code y2 cc2 nL2 none) && (am_in Ts (.methodLink y.cls x y2) && (am_in Ts (.instanceMethod y2) && am_in Ts (.initialized y2.cls)))) = true) :
    am_K l y cl cc nL fr lo (.invokespecial x, x, na + 1, some ci, f) := by
  intro p e R s m args below meth c A D cy tys sb n0 s0 pc S hN hK hty hA hR1 hR2 hd
  simp only [Bool.and_eq_true] at hw
  obtain ⟨w1, w2, w3, w5⟩ := hw
  unfold am_ckC at hn
  simp only [Bool.and_eq_true] at hn
  obtain ⟨n1, n2, n3, n4, n5⟩ := hn
  have hts := S.2.2.2.2
  have hG := am_goodIn (hsub _ (of_decide_eq_true w1))
  refine am_cI (bytes := cc2) (maxL := nL2) S hK hN hty hA hSd (fun mc ms => ⟨callB_of na hts hG rfl rfl rfl (am_in_ok hts hsub w5) (am_in_ok hts hsub w2) ⟨of_decide_eq_true n1, of_decide_eq_true n2, of_decide_eq_true n3⟩ ⟨?_, ?_⟩, hy, am_in_ok hts hsub w3⟩) hd
  · rw [hR1]; exact of_decide_eq_true n4
  · rw [hR2]; exact of_decide_eq_true n5
theorem am_KIN (hsub : ∀ w ∈ Ts, w ∈ am_tb) (hSd : am_Sd l cl y2 (am_ws y2 cc2 nL2 none) fr2 lo2 f) (hy : y2.name = "<init>") (hn : am_ckC y nL fr lo nL2 fr2 lo2 na y2 = true)
    (hw : (am_in Ts (.code y2 cc2 nL2 none) && (am_in Ts (.methodLinkNest y.cls x y2 host) && (am_in Ts (.instanceMethod y2) && am_in Ts (.initialized y2.cls)))) = true) :
    am_K l y cl cc nL fr lo (.invokespecial x, x, na + 1, some ci, f) := by
  intro p e R s m args below meth c A D cy tys sb n0 s0 pc S hN hK hty hA hR1 hR2 hd
  simp only [Bool.and_eq_true] at hw
  obtain ⟨w1, w2, w3, w5⟩ := hw
  unfold am_ckC at hn
  simp only [Bool.and_eq_true] at hn
  obtain ⟨n1, n2, n3, n4, n5⟩ := hn
  have hts := S.2.2.2.2
  have hG := am_goodIn (hsub _ (of_decide_eq_true w1))
  refine am_cIN (host := host) (bytes := cc2) (maxL := nL2) S hK hN hty hA hSd (fun mc ms => ⟨va_cnB na hts hG rfl rfl rfl (va_any rfl (am_in_ok hts hsub w2)) (am_in_ok hts hsub w5) ⟨of_decide_eq_true n1, of_decide_eq_true n2, of_decide_eq_true n3⟩ ⟨?_, ?_⟩, hy, am_in_ok hts hsub w3⟩) hd
  · rw [hR1]; exact of_decide_eq_true n4
  · rw [hR2]; exact of_decide_eq_true n5
theorem am_KO {rc : Option Nat} (hsub : ∀ w ∈ Ts, w ∈ am_tb) (hn : (decide (1 ≤ fr) && decide (20 ≤ lo)) = true)
    (hw : (am_in Ts (.methodLink y.cls x Lib.objectInit) && (am_in Ts (.instanceMethod Lib.objectInit) && am_in Ts (.code Lib.objectInit ⟨#[0xb1]⟩ 1 none))) = true) :
    am_K l y cl cc nL fr lo (.invokespecial x, x, 1, rc, am_obj) := by
  intro p e R s m args below meth c A D cy tys sb n0 s0 pc S hN hK hty hA hR1 hR2 hd
  simp only [Bool.and_eq_true] at hw hn
  obtain ⟨w1, w2, w3⟩ := hw
  have hts := S.2.2.2.2
  exact am_cObj S (am_in_ok hts hsub w1) (am_in_ok hts hsub w2) (am_in_ok hts hsub w3) ⟨by rw [hR1]; exact of_decide_eq_true hn.1, by rw [hR2]; exact of_decide_eq_true hn.2⟩ hd
theorem am_KC {rc : Option Nat} (hsub : ∀ w ∈ Ts, w ∈ am_tb) (hn : (decide (1 ≤ fr) && decide (26 ≤ lo)) = true)
    (hw : (am_in Ts (.methodLink y.cls x arraycopyName) && (am_in Ts (.native arraycopyName) && (am_in Ts (.static arraycopyName) && am_in Ts (.initialized "java/lang/System")))) = true) :
    am_K l y cl cc nL fr lo (.invokestatic x, x, 5, rc, am_cpy) := by
  intro p e R s m args below meth c A D cy tys sb n0 s0 pc S hN hK hty hA hR1 hR2 hd
  simp only [Bool.and_eq_true] at hw hn
  obtain ⟨w1, w2, w3, w4⟩ := hw
  have hts := S.2.2.2.2
  exact am_cCp S hK hty rfl (am_in_ok hts hsub w1) (am_in_ok hts hsub w2) (am_in_ok hts hsub w3) (am_in_ok hts hsub w4) ⟨by rw [hR1]; exact of_decide_eq_true hn.1, by rw [hR2]; exact of_decide_eq_true hn.2⟩ hd
end AMCC
end
section
def va_AOA (t : FieldType) (U : State) : Prop := (Cond.arrayOver (.array t)).before #[] U = true
theorem va_AOA.use {t : FieldType} {A : Array Value} {U : State} (h : va_AOA t U) : (Cond.arrayOver (.array t)).before A U = true := h
/-! ===== BEGIN new T[n][m]: the outer array a place, the inner ones among the pooled ===== -/
/-- f, but v at every address of l -/
def vr_up {α : Type} (f : Nat → α) (l : List Nat) (v : α) : Nat → α := fun a => if a ∈ l then v else f a
theorem vr_up_in {α : Type} {f : Nat → α} {l : List Nat} {v : α} {a : Nat} (h : a ∈ l) : vr_up f l v a = v := if_pos h
theorem vr_up_ne {α : Type} {f : Nat → α} {l : List Nat} {v : α} {a : Nat} (h : a ∉ l) : vr_up f l v a = f a := if_neg h
theorem vr_rows {L l : List Nat} {f : Nat → va_E} {e : va_E} (h : ∀ a, a ∈ l → a ∉ L) : va_pl L f ++ l.map (fun a => (a, e)) = va_pl (L ++ l) (vr_up f l e) := by
  unfold va_pl
  rw [List.map_append]
  congr 1
  · apply List.map_congr_left
    intro a ha
    rw [vr_up_ne (fun q => h a q ha)]
  · apply List.map_congr_left
    intro a ha
    rw [vr_up_in ha]
theorem vr_lay {X rows : va_W} {x : Nat × va_E} {pl : va_W} {D : va_G} {cl : List vw_C} {H : Heap} (hP : va_P D cl (((X ++ pl) ++ [x]) ++ rows) H) : va_P D cl ((X ++ [x]) ++ (pl ++ rows)) H := by
  rw [List.append_assoc (X ++ pl)] at hP
  have h := va_P.swap hP
  rw [← List.append_assoc X] at h
  have h2 := va_P.swap h
  rw [List.append_assoc (X ++ [x])] at h2
  exact h2
theorem vr_layD {X rows : va_W} {x : Nat × va_E} {pl : va_W} {A : Nat → Prop} (hD : va_D A (((X ++ pl) ++ [x]) ++ rows)) : va_D A ((X ++ [x]) ++ (pl ++ rows)) := by
  rw [List.append_assoc (X ++ pl)] at hD
  have h := va_D.swap hD
  rw [← List.append_assoc X] at h
  have h2 := va_D.swap h
  rw [List.append_assoc (X ++ [x])] at h2
  exact h2
theorem vr_outer (c : ClassId) (N h0 : Nat) : ∀ i : Nat, Jvm.Free.Multi.outerC c N h0 i = arrV c N (fun j => va_rf (if j < i then some (h0 + 1 + j) else none))
  | 0 => by
    show ({ cls := c, slots := Array.replicate N .null, vm := .none } : Cell) = _
    rw [arrV_new]
    refine congrArg (arrV c N) (funext fun j => ?_)
    simp [va_rf]
  | i + 1 => by
    show (Jvm.Free.Multi.outerC c N h0 i).setSlot i (.ref (h0 + 1 + i)) = _
    rw [vr_outer c N h0 i, arrV_store]
    refine congrArg (arrV c N) (funext fun j => ?_)
    by_cases e : j = i
    · subst e
      simp [updV, va_rf]
    · by_cases h : j < i
      · simp [updV, e, h, Nat.lt_succ_of_lt h]
      · simp [updV, e, h, show ¬ j < i + 1 by omega]
section VGM
variable {p : Program} {l : Launch} {e : Env} {R : Room} {s : State} {m : MethodId} {args : Array Value} {below : List Frame} {meth : Method} {c : Code} {H : Heap} {locs : List Loc} {cells slots : Nat} {Q : State → Prop}
variable {cc : ByteArray} {pc : Nat} {ls : Array Slot} {rest : List Value} {D : va_G} {cl : List vw_C} {A : Nat → Prop} {a : Nat} {tys : List (ClassId × FieldType)} {ws : va_W} {H0 : Heap}
theorem va_mna {X : va_W} {L : List Nat} {f : Nat → va_E} {cc : ByteArray} (hexec : p.tables.exec = Jvm.exec) (hb : c.code = cc) {own : String} {index : Nat} {ty : FieldType} {cy : ClassId} (hown : s.vm.findClass own = some m.cls) (hclink : (Cond.classLink own index ("[" ++ (FieldType.array ty).toString)).before args s = true) (hover : va_AOA ty s) (harr : (Cond.arrayClass ty).before args s = true) (hcy : s.vm.findClass (FieldType.array ty).toString = some cy)
    (hK : va_K D cl tys s) (hP : va_P D cl (X ++ va_pl L f) H) (hD : va_D A (X ++ va_pl L f)) (hS : va_S A H0 H locs) (hA : ∀ q, H0.size ≤ q → A q) {n k : Int32} {N' K' : Nat} {z : vp_A} (hn : ¬ n < 0) (hk : ¬ k < 0) (hN : n.toNatClampNeg = N') (hM : k.toNatClampNeg = K')
    (hb1 : N' * 4 ≤ 536870912) (hb2 : K' * componentBytes ty ≤ 536870912) (hb3 : K' ≤ 536870912) (hdf : fits ty (defaultValue ty) = true) (hdd : (defaultValue ty).isDefault = true) (hcells : cells + (1 + N') ≤ R.cells) (hslots : slots + (N' + N' * K') ≤ R.slots) (hz : ∀ c : ClassId, Jvm.Free.Multi.innerC c K' (defaultValue ty) = vp_cell c z) (hdg : decode cc pc = .ok (.multianewarray index 2, 4))
    (kk : ∀ (q : Nat) (r : Nat → Nat) (cA : ClassId) (H1 : Heap), (∀ i j : Nat, i < N' → j < N' → r i = r j → i = j) → (∀ i : Nat, i < N' → r i ∉ L) → va_K D cl (tys ++ [(cA, .array ty)]) s →
      va_P D cl ((X ++ [(q, .inl (cA, N', .inr (.inr (.inr (.inr (fun i => if i < N' then some (r i) else none))))))]) ++ va_pl (L ++ (List.range N').map r) (vr_up f ((List.range N').map r) (.inl (cy, z)))) H1 → va_D A ((X ++ [(q, .inl (cA, N', .inr (.inr (.inr (.inr (fun i => if i < N' then some (r i) else none))))))]) ++ va_pl (L ++ (List.range N').map r) (vr_up f ((List.range N').map r) (.inl (cy, z)))) → va_S A H0 H1 locs →
      W p l e R s m args below meth c H1 locs (cells + 1 + N') (slots + N' + N' * K') Q (F0 m (pc + 4) ls (.ref q :: rest))) : W p l e R s m args below meth c H locs cells slots Q (F0 m pc ls (.int k :: .int n :: rest)) := by
  subst hN
  subst hM
  intro T hT Xs
  obtain ⟨vm₁, cA, comp, -, fA, fC, hO, -, X', step⟩ := Xs.multianewarray2F hexec hown hclink (va_AOA.use hover) harr (g := F0 m pc ls (.int k :: .int n :: rest)) rfl (by rw [hb]; exact hdg) rfl hn hk hb1 hb2 hb3 hdf hdd hcells hslots
  have ec : some cy = some comp := hcy.symm.trans fC
  cases ec
  generalize hF : Jvm.Free.Multi.fill (T.setVm vm₁) cA cy n.toNatClampNeg k.toNatClampNeg (defaultValue ty) n.toNatClampNeg = F at X' step
  have hTh : (T.setVm vm₁).heap = H := hT
  obtain ⟨f1, f2, -, -⟩ := Jvm.Free.Multi.fill_facts (T.setVm vm₁) cA cy n.toNatClampNeg k.toNatClampNeg (defaultValue ty) n.toNatClampNeg
  rw [hF, hTh] at f1 f2
  have hold : ∀ x : Nat, x < H.size → F.heap[x]? = H[x]? := fun x hx => by
    have := Jvm.Free.Multi.fill_old (T.setVm vm₁) cA cy n.toNatClampNeg k.toNatClampNeg (defaultValue ty) (a := x) (by rw [hTh]; exact hx) n.toNatClampNeg
    rw [hF, hTh] at this
    exact this
  have hrow : ∀ j : Nat, j < n.toNatClampNeg → F.heap[H.size + 1 + j]? = some (vp_cell cy z) := fun j hj => by
    have := Jvm.Free.Multi.fill_inner (T.setVm vm₁) cA cy n.toNatClampNeg k.toNatClampNeg (defaultValue ty) n.toNatClampNeg j hj
    rw [hF, hTh, hz] at this
    exact this
  have hout : Jvm.Free.Multi.outerC cA n.toNatClampNeg H.size n.toNatClampNeg = vp_cell cA (n.toNatClampNeg, .inr (.inr (.inr (.inr (fun i => if i < n.toNatClampNeg then some (H.size + 1 + i) else none))))) := by
    rw [vp_cell_q]
    exact vr_outer cA n.toNatClampNeg H.size n.toNatClampNeg
  rw [hout] at f2
  have hlt : ∀ a, a ∈ L → a < H.size := fun a ha => by
    obtain ⟨k9, hk9⟩ := va_pl_get (X := X) (f := f) ha
    exact (hP k9 _ hk9).lt
  have hnl : ∀ i : Nat, i < n.toNatClampNeg → H.size + 1 + i ∉ L := fun i _ h => by
    have := hlt _ h
    omega
  have hnm : ∀ a, a ∈ (List.range n.toNatClampNeg).map (fun i => H.size + 1 + i) → a ∉ L := fun a ha h => by
    obtain ⟨i, -, rfl⟩ := List.mem_map.mp ha
    have := hlt _ h
    omega
  have hP0 : va_P D cl (X ++ va_pl L f) F.heap := hP.kept (fun k9 x hx => hold x.1 ((hP k9 x hx).lt))
  have hP1 : va_P D cl ((X ++ va_pl L f) ++ [(H.size, .inl (cA, n.toNatClampNeg, .inr (.inr (.inr (.inr (fun i => if i < n.toNatClampNeg then some (H.size + 1 + i) else none))))))]) F.heap := hP0.app (fun k9 x hx => by
    have h0 : k9 < 1 := (List.getElem?_eq_some_iff.mp hx).1
    rw [show k9 = 0 by omega] at hx
    cases hx
    exact f2)
  have hP2 : va_P D cl (((X ++ va_pl L f) ++ [(H.size, .inl (cA, n.toNatClampNeg, .inr (.inr (.inr (.inr (fun i => if i < n.toNatClampNeg then some (H.size + 1 + i) else none))))))]) ++ ((List.range n.toNatClampNeg).map (fun i => H.size + 1 + i)).map (fun a => (a, .inl (cy, z)))) F.heap := hP1.app (fun k9 x hx => by
    obtain ⟨a, ha, rfl⟩ := List.mem_map.mp (List.mem_of_getElem? hx)
    obtain ⟨i, hi, rfl⟩ := List.mem_map.mp ha
    exact hrow i (List.mem_range.mp hi))
  have hD2 : va_D A (((X ++ va_pl L f) ++ [(H.size, .inl (cA, n.toNatClampNeg, .inr (.inr (.inr (.inr (fun i => if i < n.toNatClampNeg then some (H.size + 1 + i) else none))))))]) ++ ((List.range n.toNatClampNeg).map (fun i => H.size + 1 + i)).map (fun a => (a, .inl (cy, z)))) := by
    have hD1 := hD.push (e := .inl (cA, n.toNatClampNeg, .inr (.inr (.inr (.inr (fun i => if i < n.toNatClampNeg then some (H.size + 1 + i) else none)))))) hP rfl (hA _ hS.1)
    generalize hW1 : (X ++ va_pl L f) ++ [(H.size, .inl (cA, n.toNatClampNeg, .inr (.inr (.inr (.inr (fun i => if i < n.toNatClampNeg then some (H.size + 1 + i) else none))))))] = W1 at hD1 hP1 ⊢
    have hle : ∀ (k9 : Nat) (x : Nat × va_E), W1[k9]? = some x → x.1 ≤ H.size := fun k9 x hx => by
      rw [← hW1] at hx
      by_cases hl : k9 < (X ++ va_pl L f).length
      · rw [List.getElem?_append_left hl] at hx
        exact Nat.le_of_lt ((hP k9 x hx).lt)
      · rw [List.getElem?_append_right (by omega)] at hx
        have h0 : k9 - (X ++ va_pl L f).length < 1 := (List.getElem?_eq_some_iff.mp hx).1
        rw [show k9 - (X ++ va_pl L f).length = 0 by omega] at hx
        cases hx
        exact Nat.le_refl _
    have hr : ∀ (k9 : Nat) (x : Nat × va_E), (((List.range n.toNatClampNeg).map (fun i => H.size + 1 + i)).map (fun a => ((a, .inl (cy, z)) : Nat × va_E)))[k9]? = some x → x.1 = H.size + 1 + k9 := fun k9 x hx => by
      rw [List.getElem?_map, List.getElem?_map] at hx
      by_cases h9 : k9 < n.toNatClampNeg
      · rw [List.getElem?_range h9] at hx
        cases hx
        rfl
      · have hn0 : (List.range n.toNatClampNeg)[k9]? = none := List.getElem?_eq_none (by rw [List.length_range]; omega)
        rw [hn0] at hx
        cases hx
    refine ⟨fun i j x y hi hj hxy => ?_, fun k9 x hx => ?_⟩
    · by_cases h1 : i < W1.length <;> by_cases h2 : j < W1.length
      · rw [List.getElem?_append_left h1] at hi
        rw [List.getElem?_append_left h2] at hj
        exact hD1.1 i j x y hi hj hxy
      · rw [List.getElem?_append_left h1] at hi
        rw [List.getElem?_append_right (by omega)] at hj
        have := hle _ _ hi
        have := hr _ _ hj
        omega
      · rw [List.getElem?_append_right (by omega)] at hi
        rw [List.getElem?_append_left h2] at hj
        have := hle _ _ hj
        have := hr _ _ hi
        omega
      · rw [List.getElem?_append_right (by omega)] at hi hj
        have := hr _ _ hi
        have := hr _ _ hj
        omega
    · by_cases h1 : k9 < W1.length
      · rw [List.getElem?_append_left h1] at hx
        exact hD1.2 k9 x hx
      · rw [List.getElem?_append_right (by omega)] at hx
        have := hr _ _ hx
        exact hA _ (by have := hS.1; omega)
  have hAr : ArrOfT s cA (.array ty) := fun N9 z9 => by
    obtain ⟨-, k9, hk9, cm9, hkk9⟩ := (hO 0 0 0).1
    exact ⟨(fun q hq => by cases hq), k9, hk9, cm9, hkk9⟩
  have hK2 : va_K D cl (tys ++ [(cA, .array ty)]) s := ⟨hK.1, fun k9 x hx => by
    by_cases hl : k9 < tys.length
    · rw [List.getElem?_append_left hl] at hx
      exact hK.2 k9 x hx
    · rw [List.getElem?_append_right (by omega)] at hx
      have h0 : k9 - tys.length < 1 := (List.getElem?_eq_some_iff.mp hx).1
      rw [show k9 - tys.length = 0 by omega] at hx
      cases hx
      exact ⟨hAr, fA⟩⟩
  obtain ⟨t, a1, b1⟩ := kk H.size (fun i => H.size + 1 + i) cA F.heap (fun i j _ _ h => by have h9 : H.size + 1 + i = H.size + 1 + j := h; omega) hnl hK2 (by rw [← vr_rows hnm]; exact vr_lay hP2) (by rw [← vr_rows hnm]; exact vr_layD hD2) ⟨by rw [f1]; have := hS.1; omega, fun x h1 h2 => (hold x (Nat.lt_of_lt_of_le h1 hS.1)).trans (hS.2.1 x h1 h2), hS.2.2⟩ F rfl X'
  refine ⟨t, step t ?_, b1⟩
  have e : T.heap.size = H.size := by rw [hT]
  rw [e]
  exact a1
end VGM
/-! ===== END ===== -/
end
section
/-! A grid of ints is made. -/
section AMG
variable {p : Program} {l : Launch} {e : Env} {R : Room} {s : State} {m : MethodId} {args : Array Value} {below : List Frame} {meth : Method} {c : Code}
variable {cc : ByteArray} {pc nL n0 s0 x : Nat} {A : Nat → Prop} {D : va_G} {cl : List vw_C} {cy : Nat → ClassId} {tys : List (ClassId × FieldType)} {own : String}
theorem am_gok (hx : p.tables.exec = Jvm.exec) (hb : c.code = cc) (hown : s.vm.findClass own = some m.cls) (hcl : (Cond.classLink own x "[[I").before args s = true) (hao : (Cond.arrayOver (.array .int)).before args s = true) (hac : (Cond.arrayClass .int).before args s = true) (hK : va_K D cl tys s) (hty : ∀ t ty, am_ty t = some ty → tys[t]? = some (cy t, ty)) (hA : ∀ q, s.heap.size ≤ q → A q) (hdg : decode cc pc = .ok (.multianewarray x 2, 4)) :
    am_GOK p l e R s m args below meth c A D cl cy nL n0 s0 pc 6 := by
  intro n k restK h al H locs lk Q hn hk hI hlk hn0 hs0 hc1 hc2 kk
  have hcy : s.vm.findClass (FieldType.array .int).toString = some (cy 0) := (hK.2 0 _ (hty 0 .int rfl)).2
  have hn1 : n.toNatClampNeg < 1000 := Nat.not_le.mp fun q => hn (Or.inr q)
  have hk1 : k.toNatClampNeg < 1000 := Nat.not_le.mp fun q => hk (Or.inr q)
  have e0 : am_wl cy al h ++ va_pl [] (fun _ => .inr (0, [])) = am_wl cy al h := by simp [va_pl]
  refine W.cs rfl rfl (va_mna (X := am_wl cy al h) (L := []) (f := fun _ => .inr (0, [])) (ty := .int) (cy := cy 0) (z := (k.toNatClampNeg, .inl (fun _ => 0))) (N' := n.toNatClampNeg) (K' := k.toNatClampNeg) hx hb hown hcl hao hac hcy hK (by rw [e0]; exact hI.1) (by rw [e0]; exact hI.2.1) hI.2.2.1 hA (fun q => hn (Or.inl q)) (fun q => hk (Or.inl q)) rfl rfl (by omega) ?_ (by omega) rfl rfl (by omega) (by omega) ?_ hdg ?_)
  · exact Nat.le_trans (Nat.mul_le_mul (Nat.le_of_lt hk1) (show componentBytes .int ≤ 8 by decide)) (by decide)
  · intro c1
    show ({ cls := c1, slots := Array.replicate k.toNatClampNeg (.int 0), vm := .none } : Cell) = arrV c1 k.toNatClampNeg (fun _ => .int 0)
    rw [arrV_new]
  · intro q r cA H1 hr1 hr2 hK1 hP hD hS
    have r1 := (hK1.2 tys.length (cA, .array .int) (by simp)).2
    have r2 := (hK.2 6 _ (hty 6 _ rfl)).2
    have ec : cA = cy 6 := Option.some.inj (r1.symm.trans r2)
    subst ec
    obtain ⟨al', hal'⟩ : ∃ al' : Nat → Nat, al' = fun i => if i < h.1.length then al i else if i = h.1.length then q else r (i - h.1.length - 1) := ⟨_, rfl⟩
    have a1 : ∀ i, i < h.1.length → al' i = al i := fun i hi => by rw [hal']; exact if_pos hi
    have a2 : al' h.1.length = q := by rw [hal']; simp
    have a3 : ∀ j, al' (h.1.length + 1 + j) = r j := fun j => by
      rw [hal']
      show (if _ then _ else if _ then _ else _) = _
      rw [if_neg (by omega), if_neg (by omega)]
      congr 1
      omega
    have ew : am_wl cy al' (h.1 ++ ([.inl (6, n.toNatClampNeg, some ((List.range n.toNatClampNeg).map fun i => some (h.1.length + 1 + i)))] ++ List.replicate n.toNatClampNeg (.inl (0, k.toNatClampNeg, none))), h.2)
        = (am_wl cy al h ++ [(q, .inl (cy 6, n.toNatClampNeg, .inr (.inr (.inr (.inr (fun i => if i < n.toNatClampNeg then some (r i) else none))))))]) ++ va_pl ([] ++ (List.range n.toNatClampNeg).map r) (vr_up (fun _ => .inr (0, [])) ((List.range n.toNatClampNeg).map r) (.inl (cy 0, k.toNatClampNeg, .inl (fun _ => 0)))) := by
      obtain ⟨ds, hds⟩ : ∃ ds : List am_D, ds = [.inl (6, n.toNatClampNeg, some ((List.range n.toNatClampNeg).map fun i => some (h.1.length + 1 + i)))] ++ List.replicate n.toNatClampNeg (.inl (0, k.toNatClampNeg, none)) := ⟨_, rfl⟩
      obtain ⟨rt, hrt⟩ : ∃ rt : va_W, rt = va_pl ([] ++ (List.range n.toNatClampNeg).map r) (vr_up (fun _ => .inr (0, [])) ((List.range n.toNatClampNeg).map r) (.inl (cy 0, k.toNatClampNeg, .inl (fun _ => 0)))) := ⟨_, rfl⟩
      obtain ⟨x0, hx0⟩ : ∃ x0 : Nat × va_E, x0 = (q, .inl (cy 6, n.toNatClampNeg, .inr (.inr (.inr (.inr (fun i => if i < n.toNatClampNeg then some (r i) else none)))))) := ⟨_, rfl⟩
      rw [← hds, ← hrt, ← hx0, List.append_assoc]
      apply List.ext_getElem?
      intro j
      have g0 : (am_wl cy al' (h.1 ++ ds, h.2))[j]? = ((h.1 ++ ds)[j]?).map (fun d => (al' j, am_ex cy al' h.2 j d)) := by
        unfold am_wl
        rw [List.getElem?_mapIdx]
      rw [g0]
      by_cases hj : j < h.1.length
      · have hd2 : h.1[j]? = some h.1[j] := List.getElem?_eq_getElem hj
        have g1 : (h.1 ++ ds)[j]? = h.1[j]? := List.getElem?_append_left hj
        have g2 : (am_wl cy al h ++ ([x0] ++ rt))[j]? = (am_wl cy al h)[j]? := List.getElem?_append_left (by rw [am_wl_len]; exact hj)
        rw [g1, g2, am_wl_at hd2, hd2]
        show some (_, _) = _
        rw [a1 j hj, am_ex_eq rfl a1 (hI.2.2.2.1 j _ hd2)]
      · have g1 : (h.1 ++ ds)[j]? = ds[j - h.1.length]? := List.getElem?_append_right (by omega)
        have g2 : (am_wl cy al h ++ ([x0] ++ rt))[j]? = ([x0] ++ rt)[j - h.1.length]? := by
          have := List.getElem?_append_right (l₁ := am_wl cy al h) (l₂ := [x0] ++ rt) (i := j) (by rw [am_wl_len]; omega)
          rw [am_wl_len] at this
          exact this
        rw [g1, g2]
        by_cases hk0 : j = h.1.length
        · subst hk0
          rw [Nat.sub_self, hds, hx0]
          show some (al' h.1.length, (Sum.inl (cy 6, n.toNatClampNeg, .inr (.inr (.inr (.inr (am_rf al' _))))) : va_E)) = some (q, _)
          rw [a2]
          have ef : am_rf al' ((List.range n.toNatClampNeg).map fun i => some (h.1.length + 1 + i)) = fun i => if i < n.toNatClampNeg then some (r i) else none := by
            funext i
            unfold am_rf
            rw [List.getElem?_map]
            by_cases hi : i < n.toNatClampNeg
            · rw [List.getElem?_range hi, if_pos hi]
              exact congrArg some (a3 i)
            · rw [List.getElem?_eq_none (by rw [List.length_range]; omega), if_neg hi]
              rfl
          rw [ef]
        · obtain ⟨i, hi⟩ : ∃ i, j = h.1.length + 1 + i := ⟨j - h.1.length - 1, by omega⟩
          subst hi
          rw [show h.1.length + 1 + i - h.1.length = i + 1 by omega, hds]
          show (((List.replicate n.toNatClampNeg (Sum.inl (0, k.toNatClampNeg, none)))[i]?).map _) = rt[i]?
          rw [hrt]
          unfold va_pl
          rw [List.nil_append, List.getElem?_map, List.getElem?_map, List.getElem?_replicate]
          by_cases hin : i < n.toNatClampNeg
          · rw [if_pos hin, List.getElem?_range hin]
            show some (al' (h.1.length + 1 + i), (Sum.inl (cy 0, k.toNatClampNeg, .inl (h.2 (h.1.length + 1 + i))) : va_E)) = some (r i, _)
            have ez : h.2 (h.1.length + 1 + i) = fun _ => 0 := funext fun z => hI.2.2.2.2 _ _ (by omega)
            rw [a3, vr_up_in (List.mem_map.mpr ⟨i, List.mem_range.mpr hin, rfl⟩), ez]
          · rw [if_neg hin, List.getElem?_eq_none (by rw [List.length_range]; omega)]
            rfl
    have hl : ∀ tq : List am_D, (h.1 ++ tq).length = h.1.length + tq.length := fun tq => List.length_append
    have kk := kk al' H1 a1 ⟨by rw [ew]; exact hP, by rw [ew]; exact hD, hS, fun i d hd => ?_, fun i z hi => ?_⟩
    · rw [a2] at kk
      exact W.cs (by omega) (by omega) kk
    · show am_dw (h.1 ++ _).length d
      have hd : (h.1 ++ ([.inl (6, n.toNatClampNeg, some ((List.range n.toNatClampNeg).map fun i => some (h.1.length + 1 + i)))] ++ List.replicate n.toNatClampNeg (.inl (0, k.toNatClampNeg, none))))[i]? = some d := hd
      rw [hl, List.length_append, List.length_replicate, List.length_singleton]
      by_cases hi : i < h.1.length
      · rw [List.getElem?_append_left hi] at hd
        exact am_dw_up (by omega) (hI.2.2.2.1 i d hd)
      · rw [List.getElem?_append_right (by omega)] at hd
        rcases List.mem_append.mp (List.mem_of_getElem? hd) with hm | hm
        · rw [List.mem_singleton.mp hm]
          refine ⟨by simp, fun j r2 hj => ?_, _, rfl, rfl⟩
          rw [List.getElem?_map] at hj
          by_cases hj2 : j < n.toNatClampNeg
          · rw [List.getElem?_range hj2] at hj
            cases hj
            omega
          · rw [List.getElem?_eq_none (by rw [List.length_range]; omega)] at hj
            cases hj
        · rw [(List.mem_replicate.mp hm).2]
          trivial
    · refine hI.2.2.2.2 i z ?_
      have hi2 := hi
      dsimp only at hi2
      rw [hl] at hi2
      omega
theorem am_KG {y : MethodName} {Ts : List Jvm.Cond} (hsub : ∀ w ∈ Ts, w ∈ am_tb) (hw : (am_in Ts (.classLink y.cls x "[[I") && (am_in Ts (.arrayOver (.array .int)) && am_in Ts (.arrayClass .int))) = true) : am_Kg l y cl cc nL x 6 := by
  intro p e R s m args below meth c A D cy tys n0 s0 pc S hN hK hty hA hd
  simp only [Bool.and_eq_true] at hw
  obtain ⟨w1, w2, w3⟩ := hw
  obtain ⟨hx, hb, hml, ho, hts⟩ := S
  exact am_gok hx hb ho (am_in_ok hts hsub w1) (am_in_ok hts hsub w2) (am_in_ok hts hsub w3) hK hty hA hd
end AMG
end
section
/-! printed by gen.py: the kinds of objects, the methods, their tables -/
def T_L : u_T := fun k => ([("PatchedMachine$Layout", "names", "[I", true), ("PatchedMachine$Layout", "types", "[I", true), ("PatchedMachine$Layout", "sources", "[I", true), ("PatchedMachine$Layout", "size", "I", false)] : List (String × String × String × Bool)).getD k ("", "", "", false)
def T_R : u_T := fun k => ([("PatchedMachine$Routine", "locals", "[I", true), ("PatchedMachine$Routine", "ops", "[I", true), ("PatchedMachine$Routine", "xs", "[I", true), ("PatchedMachine$Routine", "ys", "[I", true), ("PatchedMachine$Routine", "parameters", "I", false), ("PatchedMachine$Routine", "result", "I", false), ("PatchedMachine$Routine", "length", "I", false)] : List (String × String × String × Bool)).getD k ("", "", "", false)
def T_P : u_T := fun k => ([("PatchedMachine$Program", "layouts", "[LPatchedMachine$Layout;", true), ("PatchedMachine$Program", "routines", "[LPatchedMachine$Routine;", true), ("PatchedMachine$Program", "touchedClasses", "I", false), ("PatchedMachine$Program", "touchedMethods", "I", false), ("PatchedMachine$Program", "restrictedMethods", "I", false)] : List (String × String × String × Bool)).getD k ("", "", "", false)
def T_Q : u_T := fun k => ([("PatchedMachine$PatchLine", "ring", "[LPatchedMachine$Program;", true), ("PatchedMachine$PatchLine", "first", "I", false), ("PatchedMachine$PatchLine", "length", "I", false)] : List (String × String × String × Bool)).getD k ("", "", "", false)
def T_C : u_T := fun k => ([("PatchedMachine$Checker", "stack", "[I", true), ("PatchedMachine$Checker", "height", "I", false), ("PatchedMachine$Checker", "bad", "Z", false)] : List (String × String × String × Bool)).getD k ("", "", "", false)
def T_H : u_T := fun k => ([("PatchedMachine$Heap", "classes", "[I", true), ("PatchedMachine$Heap", "values", "[[I", true), ("PatchedMachine$Heap", "newValues", "[I", true), ("PatchedMachine$Heap", "isReached", "[Z", true), ("PatchedMachine$Heap", "reachedRows", "[I", true), ("PatchedMachine$Heap", "reachedCount", "I", false), ("PatchedMachine$Heap", "count", "I", false)] : List (String × String × String × Bool)).getD k ("", "", "", false)
def T_O : u_T := fun k => ([("PatchedMachine$Printer", "kept", "[I", true), ("PatchedMachine$Printer", "count", "I", false)] : List (String × String × String × Bool)).getD k ("", "", "", false)
def T_F : u_T := fun k => ([("PatchedMachine$Frame", "locals", "[I", true), ("PatchedMachine$Frame", "stack", "[I", true), ("PatchedMachine$Frame", "stackTypes", "[I", true), ("PatchedMachine$Frame", "height", "I", false), ("PatchedMachine$Frame", "method", "I", false), ("PatchedMachine$Frame", "place", "I", false)] : List (String × String × String × Bool)).getD k ("", "", "", false)
def T_U : u_T := fun k => ([("PatchedMachine$Runner", "frames", "[LPatchedMachine$Frame;", true), ("PatchedMachine$Runner", "heap", "LPatchedMachine$Heap;", true), ("PatchedMachine$Runner", "printer", "LPatchedMachine$Printer;", true), ("PatchedMachine$Runner", "depth", "I", false), ("PatchedMachine$Runner", "status", "I", false), ("PatchedMachine$Runner", "result", "I", false)] : List (String × String × String × Bool)).getD k ("", "", "", false)
def T_X : u_T := fun k => ([("PatchedMachine", "draft", "LPatchedMachine$Program;", true), ("PatchedMachine", "line", "LPatchedMachine$PatchLine;", true), ("PatchedMachine", "checker", "LPatchedMachine$Checker;", true), ("PatchedMachine", "runner", "LPatchedMachine$Runner;", true), ("PatchedMachine", "applied", "I", false), ("PatchedMachine", "moved", "I", false)] : List (String × String × String × Bool)).getD k ("", "", "", false)
def T_M : u_T := fun k => ([("PatchedMachineModel", "fields", "[I", false), ("PatchedMachineModel", "name", "[I", false), ("PatchedMachineModel", "type", "[I", false), ("PatchedMachineModel", "source", "[I", false), ("PatchedMachineModel", "parameters", "[I", false), ("PatchedMachineModel", "kinds", "[I", false), ("PatchedMachineModel", "gives", "[I", false), ("PatchedMachineModel", "length", "[I", false), ("PatchedMachineModel", "op", "[I", false), ("PatchedMachineModel", "x", "[I", false), ("PatchedMachineModel", "y", "[I", false), ("PatchedMachineModel", "classes", "[I", false), ("PatchedMachineModel", "methods", "[I", false), ("PatchedMachineModel", "barred", "[I", false), ("PatchedMachineModel", "waits", "I", false), ("PatchedMachineModel", "done", "I", false), ("PatchedMachineModel", "moves", "I", false), ("PatchedMachineModel", "seen", "[I", false), ("PatchedMachineModel", "height", "I", false), ("PatchedMachineModel", "status", "I", false), ("PatchedMachineModel", "result", "I", false), ("PatchedMachineModel", "frames", "I", false), ("PatchedMachineModel", "method", "[I", false), ("PatchedMachineModel", "place", "[I", false), ("PatchedMachineModel", "locals", "[I", false), ("PatchedMachineModel", "stack", "[I", false), ("PatchedMachineModel", "sort", "[I", false), ("PatchedMachineModel", "top", "[I", false), ("PatchedMachineModel", "made", "[I", false), ("PatchedMachineModel", "held", "[I", false), ("PatchedMachineModel", "led", "[Z", false), ("PatchedMachineModel", "fresh", "[I", false), ("PatchedMachineModel", "out", "[I", false), ("PatchedMachineModel", "outs", "I", false)] : List (String × String × String × Bool)).getD k ("", "", "", false)
def am_cl : List vw_C := [("PatchedMachine$Layout", T_L, 4), ("PatchedMachine$Routine", T_R, 7), ("PatchedMachine$Program", T_P, 5), ("PatchedMachine$PatchLine", T_Q, 3), ("PatchedMachine$Checker", T_C, 3), ("PatchedMachine$Heap", T_H, 7), ("PatchedMachine$Printer", T_O, 2), ("PatchedMachine$Frame", T_F, 6), ("PatchedMachine$Runner", T_U, 6), ("PatchedMachine", T_X, 6), ("PatchedMachineModel", T_M, 34)]
theorem am_htc : ∀ t ci, am_tyc t = some ci → ∃ r : vw_C, am_cl[ci]? = some r ∧ am_ty t = some (.object r.1) := by
  intro t ci h
  unfold am_tyc at h
  split at h <;> first | (cases h; exact ⟨_, rfl, rfl⟩) | cases h
theorem am_cb_ok {cb : List (Instr × Nat × Nat × Option Nat × am_F)} (h : ∀ z ∈ cb, am_mono z.2.2.2.2) : ∀ q ∈ cb.map (fun z => z.2), am_mono q.2.2.2 := fun q hq => by
  obtain ⟨z, hz, rfl⟩ := List.mem_map.mp hq
  exact h z hz
theorem am_cb_gr {cb : List (Instr × Nat × Nat × Option Nat × am_F)} (h : ∀ z ∈ cb, am_grow z.2.2.2.2) : ∀ q ∈ cb.map (fun z => z.2), am_grow q.2.2.2 := fun q hq => by
  obtain ⟨z, hz, rfl⟩ := List.mem_map.mp hq
  exact h z hz
theorem am_subI {t : List Jvm.Cond} (idx : List Nat) (h : t = idx.filterMap (fun i => lw_tbl[i]?)) (hg : t.all (fun w => goodWord w || am_isN w) = true) : ∀ w ∈ t, w ∈ am_tb := by
  intro w hw
  refine List.mem_filter.mpr ⟨?_, List.all_eq_true.mp hg w hw⟩
  rw [h] at hw
  obtain ⟨i, -, hi⟩ := List.mem_filterMap.mp hw
  exact List.mem_of_getElem? hi
def y_L_init : MethodName := ⟨"PatchedMachine$Layout", "<init>", "()V"⟩
def co_L_init : List (Nat × Instr) := [(0, .aload_n 0), (1, .invokespecial 3), (4, .aload_n 0), (5, .iconst 4), (6, .newarray .int), (8, .putfield 9), (11, .aload_n 0), (12, .iconst 4), (13, .newarray .int), (15, .putfield 15), (18, .aload_n 0), (19, .iconst 4), (20, .newarray .int), (22, .putfield 18), (25, .aload_n 0), (26, .iconst 0), (27, .putfield 21), (30, .return_)]
def fl_L_init : List (Nat × Nat × Nat × Nat) := [(9, 0, 0, 2), (15, 0, 1, 2), (18, 0, 2, 2), (21, 0, 3, 0)]
def cb_L_init : List (Instr × Nat × Nat × Option Nat × am_F) := [(.invokespecial 3, 3, 1, none, am_obj)]
def m_L_init : am_M := am_mk co_L_init fl_L_init (cb_L_init.map (fun z => z.2)) [] [] none 2
def f_L_init : am_F := am_mf m_L_init 1
theorem o_L_init : am_ok m_L_init := am_mk_ok (am_cb_ok (List.forall_mem_cons.mpr ⟨am_obj_mono, (fun _ h => absurd h List.not_mem_nil)⟩))
theorem n_L_init : am_mono f_L_init := am_mf_mono o_L_init
theorem g_L_init : ∀ x q, am_cal m_L_init x = some q → am_grow q.2.2 := am_mk_grow (am_cb_gr (List.forall_mem_cons.mpr ⟨am_obj_grow, (fun _ h => absurd h List.not_mem_nil)⟩))
theorem h_L_init : am_grow f_L_init := am_mf_grow g_L_init
def y_R_init : MethodName := ⟨"PatchedMachine$Routine", "<init>", "()V"⟩
def co_R_init : List (Nat × Instr) := [(0, .aload_n 0), (1, .invokespecial 3), (4, .aload_n 0), (5, .iconst 4), (6, .newarray .int), (8, .putfield 9), (11, .aload_n 0), (12, .bipush 14), (14, .newarray .int), (16, .putfield 15), (19, .aload_n 0), (20, .bipush 14), (22, .newarray .int), (24, .putfield 18), (27, .aload_n 0), (28, .bipush 14), (30, .newarray .int), (32, .putfield 21), (35, .aload_n 0), (36, .iconst 0), (37, .putfield 24), (40, .aload_n 0), (41, .iconst 0), (42, .putfield 28), (45, .aload_n 0), (46, .iconst 0), (47, .putfield 31), (50, .return_)]
def fl_R_init : List (Nat × Nat × Nat × Nat) := [(9, 1, 0, 2), (15, 1, 1, 2), (18, 1, 2, 2), (21, 1, 3, 2), (24, 1, 4, 0), (28, 1, 5, 0), (31, 1, 6, 0)]
def cb_R_init : List (Instr × Nat × Nat × Option Nat × am_F) := [(.invokespecial 3, 3, 1, none, am_obj)]
def m_R_init : am_M := am_mk co_R_init fl_R_init (cb_R_init.map (fun z => z.2)) [] [] none 2
def f_R_init : am_F := am_mf m_R_init 1
theorem o_R_init : am_ok m_R_init := am_mk_ok (am_cb_ok (List.forall_mem_cons.mpr ⟨am_obj_mono, (fun _ h => absurd h List.not_mem_nil)⟩))
theorem n_R_init : am_mono f_R_init := am_mf_mono o_R_init
theorem g_R_init : ∀ x q, am_cal m_R_init x = some q → am_grow q.2.2 := am_mk_grow (am_cb_gr (List.forall_mem_cons.mpr ⟨am_obj_grow, (fun _ h => absurd h List.not_mem_nil)⟩))
theorem h_R_init : am_grow f_R_init := am_mf_grow g_R_init
def y_P_init : MethodName := ⟨"PatchedMachine$Program", "<init>", "()V"⟩
def co_P_init : List (Nat × Instr) := [(0, .aload_n 0), (1, .invokespecial 3), (4, .aload_n 0), (5, .iconst 4), (6, .anewarray 9), (9, .putfield 11), (12, .aload_n 0), (13, .bipush 6), (15, .anewarray 17), (18, .putfield 19), (21, .aload_n 0), (22, .iconst 0), (23, .putfield 23), (26, .aload_n 0), (27, .iconst 0), (28, .putfield 27), (31, .aload_n 0), (32, .iconst 0), (33, .putfield 30), (36, .iconst 0), (37, .istore_n 1), (38, .iload_n 1), (39, .iconst 3), (40, .if_icmp .gt 22), (43, .aload_n 0), (44, .getfield 11), (47, .iload_n 1), (48, .new 9), (51, .dup), (52, .invokespecial 33), (55, .aastore), (56, .iinc 1 1), (59, .goto (-21)), (62, .iconst 0), (63, .istore_n 1), (64, .iload_n 1), (65, .bipush 6), (67, .if_icmp .ge 22), (70, .aload_n 0), (71, .getfield 19), (74, .iload_n 1), (75, .new 17), (78, .dup), (79, .invokespecial 34), (82, .aastore), (83, .iinc 1 1), (86, .goto (-22)), (89, .return_)]
def fl_P_init : List (Nat × Nat × Nat × Nat) := [(11, 2, 0, 2), (19, 2, 1, 2), (23, 2, 2, 0), (27, 2, 3, 0), (30, 2, 4, 0)]
def cb_P_init : List (Instr × Nat × Nat × Option Nat × am_F) := [(.invokespecial 3, 3, 1, none, am_obj), (.invokespecial 33, 33, 1, (some 0), f_L_init), (.invokespecial 34, 34, 1, (some 1), f_R_init)]
def m_P_init : am_M := am_mk co_P_init fl_P_init (cb_P_init.map (fun z => z.2)) [(9, 0, [some none, some none, some none, none]), (17, 1, [some none, some none, some none, some none, none, none, none])] [(9, 2), (17, 3)] none 2
def f_P_init : am_F := am_mf m_P_init 1
theorem o_P_init : am_ok m_P_init := am_mk_ok (am_cb_ok (List.forall_mem_cons.mpr ⟨am_obj_mono, (List.forall_mem_cons.mpr ⟨n_L_init, (List.forall_mem_cons.mpr ⟨n_R_init, (fun _ h => absurd h List.not_mem_nil)⟩)⟩)⟩))
theorem n_P_init : am_mono f_P_init := am_mf_mono o_P_init
theorem g_P_init : ∀ x q, am_cal m_P_init x = some q → am_grow q.2.2 := am_mk_grow (am_cb_gr (List.forall_mem_cons.mpr ⟨am_obj_grow, (List.forall_mem_cons.mpr ⟨h_L_init, (List.forall_mem_cons.mpr ⟨h_R_init, (fun _ h => absurd h List.not_mem_nil)⟩)⟩)⟩))
theorem h_P_init : am_grow f_P_init := am_mf_grow g_P_init
def y_Q_init : MethodName := ⟨"PatchedMachine$PatchLine", "<init>", "()V"⟩
def co_Q_init : List (Nat × Instr) := [(0, .aload_n 0), (1, .invokespecial 3), (4, .aload_n 0), (5, .iconst 4), (6, .anewarray 11), (9, .putfield 13), (12, .aload_n 0), (13, .iconst 0), (14, .putfield 17), (17, .aload_n 0), (18, .iconst 0), (19, .putfield 21), (22, .iconst 0), (23, .istore_n 1), (24, .iload_n 1), (25, .iconst 4), (26, .if_icmp .ge 22), (29, .aload_n 0), (30, .getfield 13), (33, .iload_n 1), (34, .new 11), (37, .dup), (38, .invokespecial 24), (41, .aastore), (42, .iinc 1 1), (45, .goto (-21)), (48, .return_)]
def fl_Q_init : List (Nat × Nat × Nat × Nat) := [(13, 3, 0, 2), (17, 3, 1, 0), (21, 3, 2, 0)]
def cb_Q_init : List (Instr × Nat × Nat × Option Nat × am_F) := [(.invokespecial 3, 3, 1, none, am_obj), (.invokespecial 24, 24, 1, (some 2), f_P_init)]
def m_Q_init : am_M := am_mk co_Q_init fl_Q_init (cb_Q_init.map (fun z => z.2)) [(11, 2, [some none, some none, none, none, none])] [(11, 4)] none 2
def f_Q_init : am_F := am_mf m_Q_init 1
theorem o_Q_init : am_ok m_Q_init := am_mk_ok (am_cb_ok (List.forall_mem_cons.mpr ⟨am_obj_mono, (List.forall_mem_cons.mpr ⟨n_P_init, (fun _ h => absurd h List.not_mem_nil)⟩)⟩))
theorem n_Q_init : am_mono f_Q_init := am_mf_mono o_Q_init
theorem g_Q_init : ∀ x q, am_cal m_Q_init x = some q → am_grow q.2.2 := am_mk_grow (am_cb_gr (List.forall_mem_cons.mpr ⟨am_obj_grow, (List.forall_mem_cons.mpr ⟨h_P_init, (fun _ h => absurd h List.not_mem_nil)⟩)⟩))
theorem h_Q_init : am_grow f_Q_init := am_mf_grow g_Q_init
def y_C_init : MethodName := ⟨"PatchedMachine$Checker", "<init>", "()V"⟩
def co_C_init : List (Nat × Instr) := [(0, .aload_n 0), (1, .invokespecial 3), (4, .aload_n 0), (5, .bipush 6), (7, .newarray .int), (9, .putfield 9), (12, .aload_n 0), (13, .iconst 0), (14, .putfield 15), (17, .aload_n 0), (18, .iconst 0), (19, .putfield 19), (22, .return_)]
def fl_C_init : List (Nat × Nat × Nat × Nat) := [(9, 4, 0, 2), (15, 4, 1, 0), (19, 4, 2, 1)]
def cb_C_init : List (Instr × Nat × Nat × Option Nat × am_F) := [(.invokespecial 3, 3, 1, none, am_obj)]
def m_C_init : am_M := am_mk co_C_init fl_C_init (cb_C_init.map (fun z => z.2)) [] [] none 2
def f_C_init : am_F := am_mf m_C_init 1
theorem o_C_init : am_ok m_C_init := am_mk_ok (am_cb_ok (List.forall_mem_cons.mpr ⟨am_obj_mono, (fun _ h => absurd h List.not_mem_nil)⟩))
theorem n_C_init : am_mono f_C_init := am_mf_mono o_C_init
theorem g_C_init : ∀ x q, am_cal m_C_init x = some q → am_grow q.2.2 := am_mk_grow (am_cb_gr (List.forall_mem_cons.mpr ⟨am_obj_grow, (fun _ h => absurd h List.not_mem_nil)⟩))
theorem h_C_init : am_grow f_C_init := am_mf_grow g_C_init
def y_H_init : MethodName := ⟨"PatchedMachine$Heap", "<init>", "()V"⟩
def co_H_init : List (Nat × Instr) := [(0, .aload_n 0), (1, .invokespecial 3), (4, .aload_n 0), (5, .bipush 16), (7, .newarray .int), (9, .putfield 9), (12, .aload_n 0), (13, .bipush 16), (15, .iconst 4), (16, .multianewarray 15 2), (20, .putfield 17), (23, .aload_n 0), (24, .iconst 4), (25, .newarray .int), (27, .putfield 20), (30, .aload_n 0), (31, .bipush 16), (33, .newarray .boolean), (35, .putfield 23), (38, .aload_n 0), (39, .bipush 16), (41, .newarray .int), (43, .putfield 27), (46, .aload_n 0), (47, .iconst 0), (48, .putfield 30), (51, .aload_n 0), (52, .iconst 0), (53, .putfield 34), (56, .return_)]
def fl_H_init : List (Nat × Nat × Nat × Nat) := [(9, 5, 0, 2), (17, 5, 1, 2), (20, 5, 2, 2), (23, 5, 3, 2), (27, 5, 4, 2), (30, 5, 5, 0), (34, 5, 6, 0)]
def cb_H_init : List (Instr × Nat × Nat × Option Nat × am_F) := [(.invokespecial 3, 3, 1, none, am_obj)]
def m_H_init : am_M := am_mk co_H_init fl_H_init (cb_H_init.map (fun z => z.2)) [] [(15, 6)] none 2
def f_H_init : am_F := am_mf m_H_init 1
theorem o_H_init : am_ok m_H_init := am_mk_ok (am_cb_ok (List.forall_mem_cons.mpr ⟨am_obj_mono, (fun _ h => absurd h List.not_mem_nil)⟩))
theorem n_H_init : am_mono f_H_init := am_mf_mono o_H_init
theorem g_H_init : ∀ x q, am_cal m_H_init x = some q → am_grow q.2.2 := am_mk_grow (am_cb_gr (List.forall_mem_cons.mpr ⟨am_obj_grow, (fun _ h => absurd h List.not_mem_nil)⟩))
theorem h_H_init : am_grow f_H_init := am_mf_grow g_H_init
def y_O_init : MethodName := ⟨"PatchedMachine$Printer", "<init>", "()V"⟩
def co_O_init : List (Nat × Instr) := [(0, .aload_n 0), (1, .invokespecial 3), (4, .aload_n 0), (5, .bipush 16), (7, .newarray .int), (9, .putfield 9), (12, .aload_n 0), (13, .iconst 0), (14, .putfield 15), (17, .return_)]
def fl_O_init : List (Nat × Nat × Nat × Nat) := [(9, 6, 0, 2), (15, 6, 1, 0)]
def cb_O_init : List (Instr × Nat × Nat × Option Nat × am_F) := [(.invokespecial 3, 3, 1, none, am_obj)]
def m_O_init : am_M := am_mk co_O_init fl_O_init (cb_O_init.map (fun z => z.2)) [] [] none 2
def f_O_init : am_F := am_mf m_O_init 1
theorem o_O_init : am_ok m_O_init := am_mk_ok (am_cb_ok (List.forall_mem_cons.mpr ⟨am_obj_mono, (fun _ h => absurd h List.not_mem_nil)⟩))
theorem n_O_init : am_mono f_O_init := am_mf_mono o_O_init
theorem g_O_init : ∀ x q, am_cal m_O_init x = some q → am_grow q.2.2 := am_mk_grow (am_cb_gr (List.forall_mem_cons.mpr ⟨am_obj_grow, (fun _ h => absurd h List.not_mem_nil)⟩))
theorem h_O_init : am_grow f_O_init := am_mf_grow g_O_init
def y_F_init : MethodName := ⟨"PatchedMachine$Frame", "<init>", "()V"⟩
def co_F_init : List (Nat × Instr) := [(0, .aload_n 0), (1, .invokespecial 3), (4, .aload_n 0), (5, .iconst 4), (6, .newarray .int), (8, .putfield 9), (11, .aload_n 0), (12, .bipush 6), (14, .newarray .int), (16, .putfield 15), (19, .aload_n 0), (20, .bipush 6), (22, .newarray .int), (24, .putfield 18), (27, .aload_n 0), (28, .iconst 0), (29, .putfield 21), (32, .aload_n 0), (33, .iconst 0), (34, .putfield 25), (37, .aload_n 0), (38, .iconst 0), (39, .putfield 28), (42, .return_)]
def fl_F_init : List (Nat × Nat × Nat × Nat) := [(9, 7, 0, 2), (15, 7, 1, 2), (18, 7, 2, 2), (21, 7, 3, 0), (25, 7, 4, 0), (28, 7, 5, 0)]
def cb_F_init : List (Instr × Nat × Nat × Option Nat × am_F) := [(.invokespecial 3, 3, 1, none, am_obj)]
def m_F_init : am_M := am_mk co_F_init fl_F_init (cb_F_init.map (fun z => z.2)) [] [] none 2
def f_F_init : am_F := am_mf m_F_init 1
theorem o_F_init : am_ok m_F_init := am_mk_ok (am_cb_ok (List.forall_mem_cons.mpr ⟨am_obj_mono, (fun _ h => absurd h List.not_mem_nil)⟩))
theorem n_F_init : am_mono f_F_init := am_mf_mono o_F_init
theorem g_F_init : ∀ x q, am_cal m_F_init x = some q → am_grow q.2.2 := am_mk_grow (am_cb_gr (List.forall_mem_cons.mpr ⟨am_obj_grow, (fun _ h => absurd h List.not_mem_nil)⟩))
theorem h_F_init : am_grow f_F_init := am_mf_grow g_F_init
def y_U_init : MethodName := ⟨"PatchedMachine$Runner", "<init>", "()V"⟩
def co_U_init : List (Nat × Instr) := [(0, .aload_n 0), (1, .invokespecial 3), (4, .aload_n 0), (5, .bipush 8), (7, .anewarray 9), (10, .putfield 11), (13, .aload_n 0), (14, .new 17), (17, .dup), (18, .invokespecial 19), (21, .putfield 20), (24, .aload_n 0), (25, .new 24), (28, .dup), (29, .invokespecial 26), (32, .putfield 27), (35, .aload_n 0), (36, .iconst 0), (37, .putfield 31), (40, .aload_n 0), (41, .iconst 0), (42, .putfield 35), (45, .aload_n 0), (46, .iconst 0), (47, .putfield 38), (50, .iconst 0), (51, .istore_n 1), (52, .iload_n 1), (53, .bipush 8), (55, .if_icmp .ge 22), (58, .aload_n 0), (59, .getfield 11), (62, .iload_n 1), (63, .new 9), (66, .dup), (67, .invokespecial 41), (70, .aastore), (71, .iinc 1 1), (74, .goto (-22)), (77, .return_)]
def fl_U_init : List (Nat × Nat × Nat × Nat) := [(11, 8, 0, 2), (20, 8, 1, 2), (27, 8, 2, 2), (31, 8, 3, 0), (35, 8, 4, 0), (38, 8, 5, 0)]
def cb_U_init : List (Instr × Nat × Nat × Option Nat × am_F) := [(.invokespecial 3, 3, 1, none, am_obj), (.invokespecial 19, 19, 1, (some 5), f_H_init), (.invokespecial 26, 26, 1, (some 6), f_O_init), (.invokespecial 41, 41, 1, (some 7), f_F_init)]
def m_U_init : am_M := am_mk co_U_init fl_U_init (cb_U_init.map (fun z => z.2)) [(17, 5, [some none, some none, some none, some none, some none, none, none]), (24, 6, [some none, none]), (9, 7, [some none, some none, some none, none, none, none])] [(9, 5)] none 2
def f_U_init : am_F := am_mf m_U_init 1
theorem o_U_init : am_ok m_U_init := am_mk_ok (am_cb_ok (List.forall_mem_cons.mpr ⟨am_obj_mono, (List.forall_mem_cons.mpr ⟨n_H_init, (List.forall_mem_cons.mpr ⟨n_O_init, (List.forall_mem_cons.mpr ⟨n_F_init, (fun _ h => absurd h List.not_mem_nil)⟩)⟩)⟩)⟩))
theorem n_U_init : am_mono f_U_init := am_mf_mono o_U_init
theorem g_U_init : ∀ x q, am_cal m_U_init x = some q → am_grow q.2.2 := am_mk_grow (am_cb_gr (List.forall_mem_cons.mpr ⟨am_obj_grow, (List.forall_mem_cons.mpr ⟨h_H_init, (List.forall_mem_cons.mpr ⟨h_O_init, (List.forall_mem_cons.mpr ⟨h_F_init, (fun _ h => absurd h List.not_mem_nil)⟩)⟩)⟩)⟩))
theorem h_U_init : am_grow f_U_init := am_mf_grow g_U_init
def y_X_init : MethodName := ⟨"PatchedMachine", "<init>", "()V"⟩
def co_X_init : List (Nat × Instr) := [(0, .aload_n 0), (1, .invokespecial 1), (4, .aload_n 0), (5, .new 7), (8, .dup), (9, .invokespecial 9), (12, .putfield 10), (15, .aload_n 0), (16, .new 16), (19, .dup), (20, .invokespecial 18), (23, .putfield 19), (26, .aload_n 0), (27, .new 23), (30, .dup), (31, .invokespecial 25), (34, .putfield 26), (37, .aload_n 0), (38, .new 30), (41, .dup), (42, .invokespecial 32), (45, .putfield 33), (48, .aload_n 0), (49, .iconst 0), (50, .putfield 37), (53, .aload_n 0), (54, .iconst 0), (55, .putfield 41), (58, .return_)]
def fl_X_init : List (Nat × Nat × Nat × Nat) := [(10, 9, 0, 2), (19, 9, 1, 2), (26, 9, 2, 2), (33, 9, 3, 2), (37, 9, 4, 0), (41, 9, 5, 0)]
def cb_X_init : List (Instr × Nat × Nat × Option Nat × am_F) := [(.invokespecial 1, 1, 1, none, am_obj), (.invokespecial 9, 9, 1, (some 2), f_P_init), (.invokespecial 18, 18, 1, (some 3), f_Q_init), (.invokespecial 25, 25, 1, (some 4), f_C_init), (.invokespecial 32, 32, 1, (some 8), f_U_init)]
def m_X_init : am_M := am_mk co_X_init fl_X_init (cb_X_init.map (fun z => z.2)) [(7, 2, [some none, some none, none, none, none]), (16, 3, [some none, none, none]), (23, 4, [some none, none, none]), (30, 8, [some none, some none, some none, none, none, none])] [] none 2
def f_X_init : am_F := am_mf m_X_init 1
theorem o_X_init : am_ok m_X_init := am_mk_ok (am_cb_ok (List.forall_mem_cons.mpr ⟨am_obj_mono, (List.forall_mem_cons.mpr ⟨n_P_init, (List.forall_mem_cons.mpr ⟨n_Q_init, (List.forall_mem_cons.mpr ⟨n_C_init, (List.forall_mem_cons.mpr ⟨n_U_init, (fun _ h => absurd h List.not_mem_nil)⟩)⟩)⟩)⟩)⟩))
theorem n_X_init : am_mono f_X_init := am_mf_mono o_X_init
theorem g_X_init : ∀ x q, am_cal m_X_init x = some q → am_grow q.2.2 := am_mk_grow (am_cb_gr (List.forall_mem_cons.mpr ⟨am_obj_grow, (List.forall_mem_cons.mpr ⟨h_P_init, (List.forall_mem_cons.mpr ⟨h_Q_init, (List.forall_mem_cons.mpr ⟨h_C_init, (List.forall_mem_cons.mpr ⟨h_U_init, (fun _ h => absurd h List.not_mem_nil)⟩)⟩)⟩)⟩)⟩))
theorem h_X_init : am_grow f_X_init := am_mf_grow g_X_init
def y_X_isClass : MethodName := ⟨"PatchedMachine", "isClass", "(I)Z"⟩
def co_X_isClass : List (Nat × Instr) := [(0, .iload_n 0), (1, .iconst 1), (2, .if_icmp .lt 12), (5, .iload_n 0), (6, .iconst 3), (7, .if_icmp .gt 7), (10, .iconst 1), (11, .goto 4), (14, .iconst 0), (15, .ireturn)]
def fl_X_isClass : List (Nat × Nat × Nat × Nat) := []
def cb_X_isClass : List (Instr × Nat × Nat × Option Nat × am_F) := []
def m_X_isClass : am_M := am_mk co_X_isClass fl_X_isClass (cb_X_isClass.map (fun z => z.2)) [] [] none 1
def f_X_isClass : am_F := am_mf m_X_isClass 1
theorem o_X_isClass : am_ok m_X_isClass := am_mk_ok (am_cb_ok (fun _ h => absurd h List.not_mem_nil))
theorem n_X_isClass : am_mono f_X_isClass := am_mf_mono o_X_isClass
theorem g_X_isClass : ∀ x q, am_cal m_X_isClass x = some q → am_grow q.2.2 := am_mk_grow (am_cb_gr (fun _ h => absurd h List.not_mem_nil))
theorem h_X_isClass : am_grow f_X_isClass := am_mf_grow g_X_isClass
def y_L_clear : MethodName := ⟨"PatchedMachine$Layout", "clear", "()V"⟩
def co_L_clear : List (Nat × Instr) := [(0, .aload_n 0), (1, .iconst 0), (2, .putfield 21), (5, .return_)]
def fl_L_clear : List (Nat × Nat × Nat × Nat) := [(21, 0, 3, 0)]
def cb_L_clear : List (Instr × Nat × Nat × Option Nat × am_F) := []
def m_L_clear : am_M := am_mk co_L_clear fl_L_clear (cb_L_clear.map (fun z => z.2)) [] [] none 2
def f_L_clear : am_F := am_mf m_L_clear 1
theorem o_L_clear : am_ok m_L_clear := am_mk_ok (am_cb_ok (fun _ h => absurd h List.not_mem_nil))
theorem n_L_clear : am_mono f_L_clear := am_mf_mono o_L_clear
theorem g_L_clear : ∀ x q, am_cal m_L_clear x = some q → am_grow q.2.2 := am_mk_grow (am_cb_gr (fun _ h => absurd h List.not_mem_nil))
theorem h_L_clear : am_grow f_L_clear := am_mf_grow g_L_clear
def y_P_clearClass : MethodName := ⟨"PatchedMachine$Program", "clearClass", "(I)V"⟩
def co_P_clearClass : List (Nat × Instr) := [(0, .aload_n 0), (1, .getfield 11), (4, .iload_n 1), (5, .aaload), (6, .invokevirtual 35), (9, .aload_n 0), (10, .dup), (11, .getfield 23), (14, .iconst 1), (15, .iload_n 1), (16, .ishl), (17, .ior), (18, .putfield 23), (21, .return_)]
def fl_P_clearClass : List (Nat × Nat × Nat × Nat) := [(11, 2, 0, 2), (23, 2, 2, 0)]
def cb_P_clearClass : List (Instr × Nat × Nat × Option Nat × am_F) := [(.invokevirtual 35, 35, 1, (some 0), f_L_clear)]
def m_P_clearClass : am_M := am_mk co_P_clearClass fl_P_clearClass (cb_P_clearClass.map (fun z => z.2)) [] [] none 2
def f_P_clearClass : am_F := am_mf m_P_clearClass 2
theorem o_P_clearClass : am_ok m_P_clearClass := am_mk_ok (am_cb_ok (List.forall_mem_cons.mpr ⟨n_L_clear, (fun _ h => absurd h List.not_mem_nil)⟩))
theorem n_P_clearClass : am_mono f_P_clearClass := am_mf_mono o_P_clearClass
theorem g_P_clearClass : ∀ x q, am_cal m_P_clearClass x = some q → am_grow q.2.2 := am_mk_grow (am_cb_gr (List.forall_mem_cons.mpr ⟨h_L_clear, (fun _ h => absurd h List.not_mem_nil)⟩))
theorem h_P_clearClass : am_grow f_P_clearClass := am_mf_grow g_P_clearClass
def y_X_layout : MethodName := ⟨"PatchedMachine", "layout", "(I)Z"⟩
def co_X_layout : List (Nat × Instr) := [(0, .iload_n 1), (1, .invokestatic 44), (4, .ifCond .ne 5), (7, .iconst 0), (8, .ireturn), (9, .aload_n 0), (10, .getfield 10), (13, .iload_n 1), (14, .invokevirtual 48), (17, .iconst 1), (18, .ireturn)]
def fl_X_layout : List (Nat × Nat × Nat × Nat) := [(10, 9, 0, 2)]
def cb_X_layout : List (Instr × Nat × Nat × Option Nat × am_F) := [(.invokestatic 44, 44, 1, none, f_X_isClass), (.invokevirtual 48, 48, 2, (some 2), f_P_clearClass)]
def m_X_layout : am_M := am_mk co_X_layout fl_X_layout (cb_X_layout.map (fun z => z.2)) [] [] none 1
def f_X_layout : am_F := am_mf m_X_layout 2
theorem o_X_layout : am_ok m_X_layout := am_mk_ok (am_cb_ok (List.forall_mem_cons.mpr ⟨n_X_isClass, (List.forall_mem_cons.mpr ⟨n_P_clearClass, (fun _ h => absurd h List.not_mem_nil)⟩)⟩))
theorem n_X_layout : am_mono f_X_layout := am_mf_mono o_X_layout
theorem g_X_layout : ∀ x q, am_cal m_X_layout x = some q → am_grow q.2.2 := am_mk_grow (am_cb_gr (List.forall_mem_cons.mpr ⟨h_X_isClass, (List.forall_mem_cons.mpr ⟨h_P_clearClass, (fun _ h => absurd h List.not_mem_nil)⟩)⟩))
theorem h_X_layout : am_grow f_X_layout := am_mf_grow g_X_layout
def y_P_touchesClass : MethodName := ⟨"PatchedMachine$Program", "touchesClass", "(I)Z"⟩
def co_P_touchesClass : List (Nat × Instr) := [(0, .aload_n 0), (1, .getfield 23), (4, .iload_n 1), (5, .ishr), (6, .iconst 1), (7, .iand), (8, .ifCond .eq 7), (11, .iconst 1), (12, .goto 4), (15, .iconst 0), (16, .ireturn)]
def fl_P_touchesClass : List (Nat × Nat × Nat × Nat) := [(23, 2, 2, 0)]
def cb_P_touchesClass : List (Instr × Nat × Nat × Option Nat × am_F) := []
def m_P_touchesClass : am_M := am_mk co_P_touchesClass fl_P_touchesClass (cb_P_touchesClass.map (fun z => z.2)) [] [] none 1
def f_P_touchesClass : am_F := am_mf m_P_touchesClass 2
theorem o_P_touchesClass : am_ok m_P_touchesClass := am_mk_ok (am_cb_ok (fun _ h => absurd h List.not_mem_nil))
theorem n_P_touchesClass : am_mono f_P_touchesClass := am_mf_mono o_P_touchesClass
theorem g_P_touchesClass : ∀ x q, am_cal m_P_touchesClass x = some q → am_grow q.2.2 := am_mk_grow (am_cb_gr (fun _ h => absurd h List.not_mem_nil))
theorem h_P_touchesClass : am_grow f_P_touchesClass := am_mf_grow g_P_touchesClass
def y_X_isName : MethodName := ⟨"PatchedMachine", "isName", "(I)Z"⟩
def co_X_isName : List (Nat × Instr) := [(0, .iload_n 0), (1, .ifCond .lt 13), (4, .iload_n 0), (5, .bipush 9), (7, .if_icmp .gt 7), (10, .iconst 1), (11, .goto 4), (14, .iconst 0), (15, .ireturn)]
def fl_X_isName : List (Nat × Nat × Nat × Nat) := []
def cb_X_isName : List (Instr × Nat × Nat × Option Nat × am_F) := []
def m_X_isName : am_M := am_mk co_X_isName fl_X_isName (cb_X_isName.map (fun z => z.2)) [] [] none 1
def f_X_isName : am_F := am_mf m_X_isName 1
theorem o_X_isName : am_ok m_X_isName := am_mk_ok (am_cb_ok (fun _ h => absurd h List.not_mem_nil))
theorem n_X_isName : am_mono f_X_isName := am_mf_mono o_X_isName
theorem g_X_isName : ∀ x q, am_cal m_X_isName x = some q → am_grow q.2.2 := am_mk_grow (am_cb_gr (fun _ h => absurd h List.not_mem_nil))
theorem h_X_isName : am_grow f_X_isName := am_mf_grow g_X_isName
def y_X_isType : MethodName := ⟨"PatchedMachine", "isType", "(I)Z"⟩
def co_X_isType : List (Nat × Instr) := [(0, .iload_n 0), (1, .ifCond .eq 10), (4, .iload_n 0), (5, .invokestatic 44), (8, .ifCond .eq 7), (11, .iconst 1), (12, .goto 4), (15, .iconst 0), (16, .ireturn)]
def fl_X_isType : List (Nat × Nat × Nat × Nat) := []
def cb_X_isType : List (Instr × Nat × Nat × Option Nat × am_F) := [(.invokestatic 44, 44, 1, none, f_X_isClass)]
def m_X_isType : am_M := am_mk co_X_isType fl_X_isType (cb_X_isType.map (fun z => z.2)) [] [] none 1
def f_X_isType : am_F := am_mf m_X_isType 1
theorem o_X_isType : am_ok m_X_isType := am_mk_ok (am_cb_ok (List.forall_mem_cons.mpr ⟨n_X_isClass, (fun _ h => absurd h List.not_mem_nil)⟩))
theorem n_X_isType : am_mono f_X_isType := am_mf_mono o_X_isType
theorem g_X_isType : ∀ x q, am_cal m_X_isType x = some q → am_grow q.2.2 := am_mk_grow (am_cb_gr (List.forall_mem_cons.mpr ⟨h_X_isClass, (fun _ h => absurd h List.not_mem_nil)⟩))
theorem h_X_isType : am_grow f_X_isType := am_mf_grow g_X_isType
def y_L_isFull : MethodName := ⟨"PatchedMachine$Layout", "isFull", "()Z"⟩
def co_L_isFull : List (Nat × Instr) := [(0, .aload_n 0), (1, .getfield 21), (4, .iconst 4), (5, .if_icmp .lt 7), (8, .iconst 1), (9, .goto 4), (12, .iconst 0), (13, .ireturn)]
def fl_L_isFull : List (Nat × Nat × Nat × Nat) := [(21, 0, 3, 0)]
def cb_L_isFull : List (Instr × Nat × Nat × Option Nat × am_F) := []
def m_L_isFull : am_M := am_mk co_L_isFull fl_L_isFull (cb_L_isFull.map (fun z => z.2)) [] [] none 1
def f_L_isFull : am_F := am_mf m_L_isFull 1
theorem o_L_isFull : am_ok m_L_isFull := am_mk_ok (am_cb_ok (fun _ h => absurd h List.not_mem_nil))
theorem n_L_isFull : am_mono f_L_isFull := am_mf_mono o_L_isFull
theorem g_L_isFull : ∀ x q, am_cal m_L_isFull x = some q → am_grow q.2.2 := am_mk_grow (am_cb_gr (fun _ h => absurd h List.not_mem_nil))
theorem h_L_isFull : am_grow f_L_isFull := am_mf_grow g_L_isFull
def y_L_find : MethodName := ⟨"PatchedMachine$Layout", "find", "(I)I"⟩
def co_L_find : List (Nat × Instr) := [(0, .iconst 0), (1, .istore_n 2), (2, .iload_n 2), (3, .aload_n 0), (4, .getfield 21), (7, .if_icmp .ge 21), (10, .aload_n 0), (11, .getfield 9), (14, .iload_n 2), (15, .iaload), (16, .iload_n 1), (17, .if_icmp .ne 5), (20, .iload_n 2), (21, .ireturn), (22, .iinc 2 1), (25, .goto (-23)), (28, .iconst (-1)), (29, .ireturn)]
def fl_L_find : List (Nat × Nat × Nat × Nat) := [(21, 0, 3, 0), (9, 0, 0, 2)]
def cb_L_find : List (Instr × Nat × Nat × Option Nat × am_F) := []
def m_L_find : am_M := am_mk co_L_find fl_L_find (cb_L_find.map (fun z => z.2)) [] [] none 0
def f_L_find : am_F := am_mf m_L_find 2
theorem o_L_find : am_ok m_L_find := am_mk_ok (am_cb_ok (fun _ h => absurd h List.not_mem_nil))
theorem n_L_find : am_mono f_L_find := am_mf_mono o_L_find
theorem g_L_find : ∀ x q, am_cal m_L_find x = some q → am_grow q.2.2 := am_mk_grow (am_cb_gr (fun _ h => absurd h List.not_mem_nil))
theorem h_L_find : am_grow f_L_find := am_mf_grow g_L_find
def y_Q_newest : MethodName := ⟨"PatchedMachine$PatchLine", "newest", "()LPatchedMachine$Program;"⟩
def co_Q_newest : List (Nat × Instr) := [(0, .aload_n 0), (1, .getfield 13), (4, .aload_n 0), (5, .getfield 17), (8, .aload_n 0), (9, .getfield 21), (12, .iadd), (13, .iconst 4), (14, .irem), (15, .aaload), (16, .areturn)]
def fl_Q_newest : List (Nat × Nat × Nat × Nat) := [(13, 3, 0, 2), (17, 3, 1, 0), (21, 3, 2, 0)]
def cb_Q_newest : List (Instr × Nat × Nat × Option Nat × am_F) := []
def m_Q_newest : am_M := am_mk co_Q_newest fl_Q_newest (cb_Q_newest.map (fun z => z.2)) [] [] none 3
def f_Q_newest : am_F := am_mf m_Q_newest 1
theorem o_Q_newest : am_ok m_Q_newest := am_mk_ok (am_cb_ok (fun _ h => absurd h List.not_mem_nil))
theorem n_Q_newest : am_mono f_Q_newest := am_mf_mono o_Q_newest
theorem g_Q_newest : ∀ x q, am_cal m_Q_newest x = some q → am_grow q.2.2 := am_mk_grow (am_cb_gr (fun _ h => absurd h List.not_mem_nil))
theorem h_Q_newest : am_grow f_Q_newest := am_mf_grow g_Q_newest
def y_L_typeNamed : MethodName := ⟨"PatchedMachine$Layout", "typeNamed", "(I)I"⟩
def co_L_typeNamed : List (Nat × Instr) := [(0, .aload_n 0), (1, .iload_n 1), (2, .invokevirtual 29), (5, .istore_n 2), (6, .iload_n 2), (7, .iconst (-1)), (8, .if_icmp .ne 7), (11, .iconst (-1)), (12, .goto 9), (15, .aload_n 0), (16, .getfield 15), (19, .iload_n 2), (20, .iaload), (21, .ireturn)]
def fl_L_typeNamed : List (Nat × Nat × Nat × Nat) := [(15, 0, 1, 2)]
def cb_L_typeNamed : List (Instr × Nat × Nat × Option Nat × am_F) := [(.invokevirtual 29, 29, 2, (some 0), f_L_find)]
def m_L_typeNamed : am_M := am_mk co_L_typeNamed fl_L_typeNamed (cb_L_typeNamed.map (fun z => z.2)) [] [] none 0
def f_L_typeNamed : am_F := am_mf m_L_typeNamed 2
theorem o_L_typeNamed : am_ok m_L_typeNamed := am_mk_ok (am_cb_ok (List.forall_mem_cons.mpr ⟨n_L_find, (fun _ h => absurd h List.not_mem_nil)⟩))
theorem n_L_typeNamed : am_mono f_L_typeNamed := am_mf_mono o_L_typeNamed
theorem g_L_typeNamed : ∀ x q, am_cal m_L_typeNamed x = some q → am_grow q.2.2 := am_mk_grow (am_cb_gr (List.forall_mem_cons.mpr ⟨h_L_find, (fun _ h => absurd h List.not_mem_nil)⟩))
theorem h_L_typeNamed : am_grow f_L_typeNamed := am_mf_grow g_L_typeNamed
def y_L_add : MethodName := ⟨"PatchedMachine$Layout", "add", "(III)V"⟩
def co_L_add : List (Nat × Instr) := [(0, .aload_n 0), (1, .invokevirtual 25), (4, .ifCond .eq 4), (7, .return_), (8, .aload_n 0), (9, .getfield 9), (12, .aload_n 0), (13, .getfield 21), (16, .iload_n 1), (17, .iastore), (18, .aload_n 0), (19, .getfield 15), (22, .aload_n 0), (23, .getfield 21), (26, .iload_n 2), (27, .iastore), (28, .aload_n 0), (29, .getfield 18), (32, .aload_n 0), (33, .getfield 21), (36, .iload_n 3), (37, .iastore), (38, .aload_n 0), (39, .dup), (40, .getfield 21), (43, .iconst 1), (44, .iadd), (45, .putfield 21), (48, .return_)]
def fl_L_add : List (Nat × Nat × Nat × Nat) := [(9, 0, 0, 2), (21, 0, 3, 0), (15, 0, 1, 2), (18, 0, 2, 2)]
def cb_L_add : List (Instr × Nat × Nat × Option Nat × am_F) := [(.invokevirtual 25, 25, 1, (some 0), f_L_isFull)]
def m_L_add : am_M := am_mk co_L_add fl_L_add (cb_L_add.map (fun z => z.2)) [] [] none 2
def f_L_add : am_F := am_mf m_L_add 4
theorem o_L_add : am_ok m_L_add := am_mk_ok (am_cb_ok (List.forall_mem_cons.mpr ⟨n_L_isFull, (fun _ h => absurd h List.not_mem_nil)⟩))
theorem n_L_add : am_mono f_L_add := am_mf_mono o_L_add
theorem g_L_add : ∀ x q, am_cal m_L_add x = some q → am_grow q.2.2 := am_mk_grow (am_cb_gr (List.forall_mem_cons.mpr ⟨h_L_isFull, (fun _ h => absurd h List.not_mem_nil)⟩))
theorem h_L_add : am_grow f_L_add := am_mf_grow g_L_add
def y_X_field : MethodName := ⟨"PatchedMachine", "field", "(IIII)Z"⟩
def co_X_field : List (Nat × Instr) := [(0, .iload_n 1), (1, .invokestatic 44), (4, .ifCond .eq 28), (7, .aload_n 0), (8, .getfield 10), (11, .iload_n 1), (12, .invokevirtual 52), (15, .ifCond .eq 17), (18, .iload_n 2), (19, .invokestatic 55), (22, .ifCond .eq 10), (25, .iload_n 3), (26, .invokestatic 58), (29, .ifCond .ne 5), (32, .iconst 0), (33, .ireturn), (34, .aload_n 0), (35, .getfield 10), (38, .getfield 61), (41, .iload_n 1), (42, .aaload), (43, .astore 5), (45, .aload 5), (47, .invokevirtual 65), (50, .ifCond .ne 13), (53, .aload 5), (55, .iload_n 2), (56, .invokevirtual 71), (59, .iconst (-1)), (60, .if_icmp .eq 5), (63, .iconst 0), (64, .ireturn), (65, .iload 4), (67, .iconst (-1)), (68, .if_icmp .eq 26), (71, .aload_n 0), (72, .getfield 19), (75, .invokevirtual 75), (78, .getfield 61), (81, .iload_n 1), (82, .aaload), (83, .iload 4), (85, .invokevirtual 79), (88, .iload_n 3), (89, .if_icmp .eq 5), (92, .iconst 0), (93, .ireturn), (94, .aload 5), (96, .iload_n 2), (97, .iload_n 3), (98, .iload 4), (100, .invokevirtual 82), (103, .iconst 1), (104, .ireturn)]
def fl_X_field : List (Nat × Nat × Nat × Nat) := [(10, 9, 0, 2), (61, 2, 0, 2), (19, 9, 1, 2)]
def cb_X_field : List (Instr × Nat × Nat × Option Nat × am_F) := [(.invokestatic 44, 44, 1, none, f_X_isClass), (.invokevirtual 52, 52, 2, (some 2), f_P_touchesClass), (.invokestatic 55, 55, 1, none, f_X_isName), (.invokestatic 58, 58, 1, none, f_X_isType), (.invokevirtual 65, 65, 1, (some 0), f_L_isFull), (.invokevirtual 71, 71, 2, (some 0), f_L_find), (.invokevirtual 75, 75, 1, (some 3), f_Q_newest), (.invokevirtual 79, 79, 2, (some 0), f_L_typeNamed), (.invokevirtual 82, 82, 4, (some 0), f_L_add)]
def m_X_field : am_M := am_mk co_X_field fl_X_field (cb_X_field.map (fun z => z.2)) [] [] none 1
def f_X_field : am_F := am_mf m_X_field 5
theorem o_X_field : am_ok m_X_field := am_mk_ok (am_cb_ok (List.forall_mem_cons.mpr ⟨n_X_isClass, (List.forall_mem_cons.mpr ⟨n_P_touchesClass, (List.forall_mem_cons.mpr ⟨n_X_isName, (List.forall_mem_cons.mpr ⟨n_X_isType, (List.forall_mem_cons.mpr ⟨n_L_isFull, (List.forall_mem_cons.mpr ⟨n_L_find, (List.forall_mem_cons.mpr ⟨n_Q_newest, (List.forall_mem_cons.mpr ⟨n_L_typeNamed, (List.forall_mem_cons.mpr ⟨n_L_add, (fun _ h => absurd h List.not_mem_nil)⟩)⟩)⟩)⟩)⟩)⟩)⟩)⟩)⟩))
theorem n_X_field : am_mono f_X_field := am_mf_mono o_X_field
theorem g_X_field : ∀ x q, am_cal m_X_field x = some q → am_grow q.2.2 := am_mk_grow (am_cb_gr (List.forall_mem_cons.mpr ⟨h_X_isClass, (List.forall_mem_cons.mpr ⟨h_P_touchesClass, (List.forall_mem_cons.mpr ⟨h_X_isName, (List.forall_mem_cons.mpr ⟨h_X_isType, (List.forall_mem_cons.mpr ⟨h_L_isFull, (List.forall_mem_cons.mpr ⟨h_L_find, (List.forall_mem_cons.mpr ⟨h_Q_newest, (List.forall_mem_cons.mpr ⟨h_L_typeNamed, (List.forall_mem_cons.mpr ⟨h_L_add, (fun _ h => absurd h List.not_mem_nil)⟩)⟩)⟩)⟩)⟩)⟩)⟩)⟩)⟩))
theorem h_X_field : am_grow f_X_field := am_mf_grow g_X_field
def y_X_isMethod : MethodName := ⟨"PatchedMachine", "isMethod", "(I)Z"⟩
def co_X_isMethod : List (Nat × Instr) := [(0, .iload_n 0), (1, .ifCond .lt 13), (4, .iload_n 0), (5, .bipush 6), (7, .if_icmp .ge 7), (10, .iconst 1), (11, .goto 4), (14, .iconst 0), (15, .ireturn)]
def fl_X_isMethod : List (Nat × Nat × Nat × Nat) := []
def cb_X_isMethod : List (Instr × Nat × Nat × Option Nat × am_F) := []
def m_X_isMethod : am_M := am_mk co_X_isMethod fl_X_isMethod (cb_X_isMethod.map (fun z => z.2)) [] [] none 1
def f_X_isMethod : am_F := am_mf m_X_isMethod 1
theorem o_X_isMethod : am_ok m_X_isMethod := am_mk_ok (am_cb_ok (fun _ h => absurd h List.not_mem_nil))
theorem n_X_isMethod : am_mono f_X_isMethod := am_mf_mono o_X_isMethod
theorem g_X_isMethod : ∀ x q, am_cal m_X_isMethod x = some q → am_grow q.2.2 := am_mk_grow (am_cb_gr (fun _ h => absurd h List.not_mem_nil))
theorem h_X_isMethod : am_grow f_X_isMethod := am_mf_grow g_X_isMethod
def y_R_begin : MethodName := ⟨"PatchedMachine$Routine", "begin", "(III)V"⟩
def co_R_begin : List (Nat × Instr) := [(0, .aload_n 0), (1, .iload_n 1), (2, .putfield 24), (5, .aload_n 0), (6, .iload_n 3), (7, .putfield 28), (10, .aload_n 0), (11, .iconst 0), (12, .putfield 31), (15, .iconst 0), (16, .istore 4), (18, .iload 4), (20, .iconst 4), (21, .if_icmp .ge 24), (24, .aload_n 0), (25, .getfield 9), (28, .iload 4), (30, .iload_n 2), (31, .iconst 2), (32, .iload 4), (34, .imul), (35, .ishr), (36, .iconst 3), (37, .iand), (38, .iastore), (39, .iinc 4 1), (42, .goto (-24)), (45, .return_)]
def fl_R_begin : List (Nat × Nat × Nat × Nat) := [(24, 1, 4, 0), (28, 1, 5, 0), (31, 1, 6, 0), (9, 1, 0, 2)]
def cb_R_begin : List (Instr × Nat × Nat × Option Nat × am_F) := []
def m_R_begin : am_M := am_mk co_R_begin fl_R_begin (cb_R_begin.map (fun z => z.2)) [] [] none 2
def f_R_begin : am_F := am_mf m_R_begin 4
theorem o_R_begin : am_ok m_R_begin := am_mk_ok (am_cb_ok (fun _ h => absurd h List.not_mem_nil))
theorem n_R_begin : am_mono f_R_begin := am_mf_mono o_R_begin
theorem g_R_begin : ∀ x q, am_cal m_R_begin x = some q → am_grow q.2.2 := am_mk_grow (am_cb_gr (fun _ h => absurd h List.not_mem_nil))
theorem h_R_begin : am_grow f_R_begin := am_mf_grow g_R_begin
def y_P_beginMethod : MethodName := ⟨"PatchedMachine$Program", "beginMethod", "(IIII)V"⟩
def co_P_beginMethod : List (Nat × Instr) := [(0, .aload_n 0), (1, .getfield 19), (4, .iload_n 1), (5, .aaload), (6, .iload_n 2), (7, .iload_n 3), (8, .iload 4), (10, .invokevirtual 38), (13, .aload_n 0), (14, .dup), (15, .getfield 27), (18, .iconst 1), (19, .iload_n 1), (20, .ishl), (21, .ior), (22, .putfield 27), (25, .return_)]
def fl_P_beginMethod : List (Nat × Nat × Nat × Nat) := [(19, 2, 1, 2), (27, 2, 3, 0)]
def cb_P_beginMethod : List (Instr × Nat × Nat × Option Nat × am_F) := [(.invokevirtual 38, 38, 4, (some 1), f_R_begin)]
def m_P_beginMethod : am_M := am_mk co_P_beginMethod fl_P_beginMethod (cb_P_beginMethod.map (fun z => z.2)) [] [] none 2
def f_P_beginMethod : am_F := am_mf m_P_beginMethod 5
theorem o_P_beginMethod : am_ok m_P_beginMethod := am_mk_ok (am_cb_ok (List.forall_mem_cons.mpr ⟨n_R_begin, (fun _ h => absurd h List.not_mem_nil)⟩))
theorem n_P_beginMethod : am_mono f_P_beginMethod := am_mf_mono o_P_beginMethod
theorem g_P_beginMethod : ∀ x q, am_cal m_P_beginMethod x = some q → am_grow q.2.2 := am_mk_grow (am_cb_gr (List.forall_mem_cons.mpr ⟨h_R_begin, (fun _ h => absurd h List.not_mem_nil)⟩))
theorem h_P_beginMethod : am_grow f_P_beginMethod := am_mf_grow g_P_beginMethod
def y_X_head : MethodName := ⟨"PatchedMachine", "head", "(IIII)Z"⟩
def co_X_head : List (Nat × Instr) := [(0, .iload_n 1), (1, .invokestatic 86), (4, .ifCond .eq 11), (7, .iload 4), (9, .invokestatic 58), (12, .ifCond .ne 5), (15, .iconst 0), (16, .ireturn), (17, .iload_n 2), (18, .ifCond .lt 19), (21, .iload_n 2), (22, .iconst 3), (23, .if_icmp .gt 14), (26, .iload_n 3), (27, .ifCond .lt 10), (30, .iload_n 3), (31, .sipush 255), (34, .if_icmp .le 5), (37, .iconst 0), (38, .ireturn), (39, .aload_n 0), (40, .getfield 10), (43, .iload_n 1), (44, .iload_n 2), (45, .iload_n 3), (46, .iload 4), (48, .invokevirtual 89), (51, .iconst 1), (52, .ireturn)]
def fl_X_head : List (Nat × Nat × Nat × Nat) := [(10, 9, 0, 2)]
def cb_X_head : List (Instr × Nat × Nat × Option Nat × am_F) := [(.invokestatic 86, 86, 1, none, f_X_isMethod), (.invokestatic 58, 58, 1, none, f_X_isType), (.invokevirtual 89, 89, 5, (some 2), f_P_beginMethod)]
def m_X_head : am_M := am_mk co_X_head fl_X_head (cb_X_head.map (fun z => z.2)) [] [] none 1
def f_X_head : am_F := am_mf m_X_head 5
theorem o_X_head : am_ok m_X_head := am_mk_ok (am_cb_ok (List.forall_mem_cons.mpr ⟨n_X_isMethod, (List.forall_mem_cons.mpr ⟨n_X_isType, (List.forall_mem_cons.mpr ⟨n_P_beginMethod, (fun _ h => absurd h List.not_mem_nil)⟩)⟩)⟩))
theorem n_X_head : am_mono f_X_head := am_mf_mono o_X_head
theorem g_X_head : ∀ x q, am_cal m_X_head x = some q → am_grow q.2.2 := am_mk_grow (am_cb_gr (List.forall_mem_cons.mpr ⟨h_X_isMethod, (List.forall_mem_cons.mpr ⟨h_X_isType, (List.forall_mem_cons.mpr ⟨h_P_beginMethod, (fun _ h => absurd h List.not_mem_nil)⟩)⟩)⟩))
theorem h_X_head : am_grow f_X_head := am_mf_grow g_X_head
def y_P_touchesMethod : MethodName := ⟨"PatchedMachine$Program", "touchesMethod", "(I)Z"⟩
def co_P_touchesMethod : List (Nat × Instr) := [(0, .aload_n 0), (1, .getfield 27), (4, .iload_n 1), (5, .ishr), (6, .iconst 1), (7, .iand), (8, .ifCond .eq 7), (11, .iconst 1), (12, .goto 4), (15, .iconst 0), (16, .ireturn)]
def fl_P_touchesMethod : List (Nat × Nat × Nat × Nat) := [(27, 2, 3, 0)]
def cb_P_touchesMethod : List (Instr × Nat × Nat × Option Nat × am_F) := []
def m_P_touchesMethod : am_M := am_mk co_P_touchesMethod fl_P_touchesMethod (cb_P_touchesMethod.map (fun z => z.2)) [] [] none 1
def f_P_touchesMethod : am_F := am_mf m_P_touchesMethod 2
theorem o_P_touchesMethod : am_ok m_P_touchesMethod := am_mk_ok (am_cb_ok (fun _ h => absurd h List.not_mem_nil))
theorem n_P_touchesMethod : am_mono f_P_touchesMethod := am_mf_mono o_P_touchesMethod
theorem g_P_touchesMethod : ∀ x q, am_cal m_P_touchesMethod x = some q → am_grow q.2.2 := am_mk_grow (am_cb_gr (fun _ h => absurd h List.not_mem_nil))
theorem h_P_touchesMethod : am_grow f_P_touchesMethod := am_mf_grow g_P_touchesMethod
def y_R_isFull : MethodName := ⟨"PatchedMachine$Routine", "isFull", "()Z"⟩
def co_R_isFull : List (Nat × Instr) := [(0, .aload_n 0), (1, .getfield 31), (4, .bipush 14), (6, .if_icmp .lt 7), (9, .iconst 1), (10, .goto 4), (13, .iconst 0), (14, .ireturn)]
def fl_R_isFull : List (Nat × Nat × Nat × Nat) := [(31, 1, 6, 0)]
def cb_R_isFull : List (Instr × Nat × Nat × Option Nat × am_F) := []
def m_R_isFull : am_M := am_mk co_R_isFull fl_R_isFull (cb_R_isFull.map (fun z => z.2)) [] [] none 1
def f_R_isFull : am_F := am_mf m_R_isFull 1
theorem o_R_isFull : am_ok m_R_isFull := am_mk_ok (am_cb_ok (fun _ h => absurd h List.not_mem_nil))
theorem n_R_isFull : am_mono f_R_isFull := am_mf_mono o_R_isFull
theorem g_R_isFull : ∀ x q, am_cal m_R_isFull x = some q → am_grow q.2.2 := am_mk_grow (am_cb_gr (fun _ h => absurd h List.not_mem_nil))
theorem h_R_isFull : am_grow f_R_isFull := am_mf_grow g_R_isFull
def y_X_fitsX : MethodName := ⟨"PatchedMachine", "fitsX", "(II)Z"⟩
def co_X_fitsX : List (Nat × Instr) := [(0, .iload_n 0), (1, .tableswitch 122 0 15 #[79, 81, 86, 86, 122, 122, 122, 122, 101, 101, 81, 81, 81, 117, 122, 81]), (80, .iconst 1), (81, .ireturn), (82, .iload_n 1), (83, .invokestatic 44), (86, .ireturn), (87, .iload_n 1), (88, .ifCond .lt 12), (91, .iload_n 1), (92, .iconst 4), (93, .if_icmp .ge 7), (96, .iconst 1), (97, .goto 4), (100, .iconst 0), (101, .ireturn), (102, .iload_n 1), (103, .ifCond .lt 13), (106, .iload_n 1), (107, .bipush 14), (109, .if_icmp .ge 7), (112, .iconst 1), (113, .goto 4), (116, .iconst 0), (117, .ireturn), (118, .iload_n 1), (119, .invokestatic 86), (122, .ireturn), (123, .iload_n 1), (124, .ifCond .ne 7), (127, .iconst 1), (128, .goto 4), (131, .iconst 0), (132, .ireturn)]
def fl_X_fitsX : List (Nat × Nat × Nat × Nat) := []
def cb_X_fitsX : List (Instr × Nat × Nat × Option Nat × am_F) := [(.invokestatic 44, 44, 1, none, f_X_isClass), (.invokestatic 86, 86, 1, none, f_X_isMethod)]
def m_X_fitsX : am_M := am_mk co_X_fitsX fl_X_fitsX (cb_X_fitsX.map (fun z => z.2)) [] [] none 1
def f_X_fitsX : am_F := am_mf m_X_fitsX 2
theorem o_X_fitsX : am_ok m_X_fitsX := am_mk_ok (am_cb_ok (List.forall_mem_cons.mpr ⟨n_X_isClass, (List.forall_mem_cons.mpr ⟨n_X_isMethod, (fun _ h => absurd h List.not_mem_nil)⟩)⟩))
theorem n_X_fitsX : am_mono f_X_fitsX := am_mf_mono o_X_fitsX
theorem g_X_fitsX : ∀ x q, am_cal m_X_fitsX x = some q → am_grow q.2.2 := am_mk_grow (am_cb_gr (List.forall_mem_cons.mpr ⟨h_X_isClass, (List.forall_mem_cons.mpr ⟨h_X_isMethod, (fun _ h => absurd h List.not_mem_nil)⟩)⟩))
theorem h_X_fitsX : am_grow f_X_fitsX := am_mf_grow g_X_fitsX
def y_X_fitsY : MethodName := ⟨"PatchedMachine", "fitsY", "(II)Z"⟩
def co_X_fitsY : List (Nat × Instr) := [(0, .iload_n 0), (1, .bipush 11), (3, .if_icmp .eq 9), (6, .iload_n 0), (7, .bipush 12), (9, .if_icmp .ne 10), (12, .iload_n 1), (13, .invokestatic 55), (16, .goto 12), (19, .iload_n 1), (20, .ifCond .ne 7), (23, .iconst 1), (24, .goto 4), (27, .iconst 0), (28, .ireturn)]
def fl_X_fitsY : List (Nat × Nat × Nat × Nat) := []
def cb_X_fitsY : List (Instr × Nat × Nat × Option Nat × am_F) := [(.invokestatic 55, 55, 1, none, f_X_isName)]
def m_X_fitsY : am_M := am_mk co_X_fitsY fl_X_fitsY (cb_X_fitsY.map (fun z => z.2)) [] [] none 1
def f_X_fitsY : am_F := am_mf m_X_fitsY 2
theorem o_X_fitsY : am_ok m_X_fitsY := am_mk_ok (am_cb_ok (List.forall_mem_cons.mpr ⟨n_X_isName, (fun _ h => absurd h List.not_mem_nil)⟩))
theorem n_X_fitsY : am_mono f_X_fitsY := am_mf_mono o_X_fitsY
theorem g_X_fitsY : ∀ x q, am_cal m_X_fitsY x = some q → am_grow q.2.2 := am_mk_grow (am_cb_gr (List.forall_mem_cons.mpr ⟨h_X_isName, (fun _ h => absurd h List.not_mem_nil)⟩))
theorem h_X_fitsY : am_grow f_X_fitsY := am_mf_grow g_X_fitsY
def y_R_add : MethodName := ⟨"PatchedMachine$Routine", "add", "(III)V"⟩
def co_R_add : List (Nat × Instr) := [(0, .aload_n 0), (1, .invokevirtual 34), (4, .ifCond .eq 4), (7, .return_), (8, .aload_n 0), (9, .getfield 15), (12, .aload_n 0), (13, .getfield 31), (16, .iload_n 1), (17, .iastore), (18, .aload_n 0), (19, .getfield 18), (22, .aload_n 0), (23, .getfield 31), (26, .iload_n 2), (27, .iastore), (28, .aload_n 0), (29, .getfield 21), (32, .aload_n 0), (33, .getfield 31), (36, .iload_n 3), (37, .iastore), (38, .aload_n 0), (39, .dup), (40, .getfield 31), (43, .iconst 1), (44, .iadd), (45, .putfield 31), (48, .return_)]
def fl_R_add : List (Nat × Nat × Nat × Nat) := [(15, 1, 1, 2), (31, 1, 6, 0), (18, 1, 2, 2), (21, 1, 3, 2)]
def cb_R_add : List (Instr × Nat × Nat × Option Nat × am_F) := [(.invokevirtual 34, 34, 1, (some 1), f_R_isFull)]
def m_R_add : am_M := am_mk co_R_add fl_R_add (cb_R_add.map (fun z => z.2)) [] [] none 2
def f_R_add : am_F := am_mf m_R_add 4
theorem o_R_add : am_ok m_R_add := am_mk_ok (am_cb_ok (List.forall_mem_cons.mpr ⟨n_R_isFull, (fun _ h => absurd h List.not_mem_nil)⟩))
theorem n_R_add : am_mono f_R_add := am_mf_mono o_R_add
theorem g_R_add : ∀ x q, am_cal m_R_add x = some q → am_grow q.2.2 := am_mk_grow (am_cb_gr (List.forall_mem_cons.mpr ⟨h_R_isFull, (fun _ h => absurd h List.not_mem_nil)⟩))
theorem h_R_add : am_grow f_R_add := am_mf_grow g_R_add
def y_X_code : MethodName := ⟨"PatchedMachine", "code", "(IIII)Z"⟩
def co_X_code : List (Nat × Instr) := [(0, .iload_n 1), (1, .invokestatic 86), (4, .ifCond .eq 29), (7, .aload_n 0), (8, .getfield 10), (11, .iload_n 1), (12, .invokevirtual 93), (15, .ifCond .eq 18), (18, .aload_n 0), (19, .getfield 10), (22, .getfield 96), (25, .iload_n 1), (26, .aaload), (27, .invokevirtual 100), (30, .ifCond .eq 5), (33, .iconst 0), (34, .ireturn), (35, .iload_n 2), (36, .ifCond .lt 26), (39, .iload_n 2), (40, .bipush 16), (42, .if_icmp .gt 20), (45, .iload_n 2), (46, .iload_n 3), (47, .invokestatic 103), (50, .ifCond .eq 12), (53, .iload_n 2), (54, .iload 4), (56, .invokestatic 107), (59, .ifCond .ne 5), (62, .iconst 0), (63, .ireturn), (64, .aload_n 0), (65, .getfield 10), (68, .getfield 96), (71, .iload_n 1), (72, .aaload), (73, .iload_n 2), (74, .iload_n 3), (75, .iload 4), (77, .invokevirtual 110), (80, .iconst 1), (81, .ireturn)]
def fl_X_code : List (Nat × Nat × Nat × Nat) := [(10, 9, 0, 2), (96, 2, 1, 2)]
def cb_X_code : List (Instr × Nat × Nat × Option Nat × am_F) := [(.invokestatic 86, 86, 1, none, f_X_isMethod), (.invokevirtual 93, 93, 2, (some 2), f_P_touchesMethod), (.invokevirtual 100, 100, 1, (some 1), f_R_isFull), (.invokestatic 103, 103, 2, none, f_X_fitsX), (.invokestatic 107, 107, 2, none, f_X_fitsY), (.invokevirtual 110, 110, 4, (some 1), f_R_add)]
def m_X_code : am_M := am_mk co_X_code fl_X_code (cb_X_code.map (fun z => z.2)) [] [] none 1
def f_X_code : am_F := am_mf m_X_code 5
theorem o_X_code : am_ok m_X_code := am_mk_ok (am_cb_ok (List.forall_mem_cons.mpr ⟨n_X_isMethod, (List.forall_mem_cons.mpr ⟨n_P_touchesMethod, (List.forall_mem_cons.mpr ⟨n_R_isFull, (List.forall_mem_cons.mpr ⟨n_X_fitsX, (List.forall_mem_cons.mpr ⟨n_X_fitsY, (List.forall_mem_cons.mpr ⟨n_R_add, (fun _ h => absurd h List.not_mem_nil)⟩)⟩)⟩)⟩)⟩)⟩))
theorem n_X_code : am_mono f_X_code := am_mf_mono o_X_code
theorem g_X_code : ∀ x q, am_cal m_X_code x = some q → am_grow q.2.2 := am_mk_grow (am_cb_gr (List.forall_mem_cons.mpr ⟨h_X_isMethod, (List.forall_mem_cons.mpr ⟨h_P_touchesMethod, (List.forall_mem_cons.mpr ⟨h_R_isFull, (List.forall_mem_cons.mpr ⟨h_X_fitsX, (List.forall_mem_cons.mpr ⟨h_X_fitsY, (List.forall_mem_cons.mpr ⟨h_R_add, (fun _ h => absurd h List.not_mem_nil)⟩)⟩)⟩)⟩)⟩)⟩))
theorem h_X_code : am_grow f_X_code := am_mf_grow g_X_code
def y_P_touchesAnything : MethodName := ⟨"PatchedMachine$Program", "touchesAnything", "()Z"⟩
def co_P_touchesAnything : List (Nat × Instr) := [(0, .aload_n 0), (1, .getfield 23), (4, .ifCond .ne 10), (7, .aload_n 0), (8, .getfield 27), (11, .ifCond .eq 7), (14, .iconst 1), (15, .goto 4), (18, .iconst 0), (19, .ireturn)]
def fl_P_touchesAnything : List (Nat × Nat × Nat × Nat) := [(23, 2, 2, 0), (27, 2, 3, 0)]
def cb_P_touchesAnything : List (Instr × Nat × Nat × Option Nat × am_F) := []
def m_P_touchesAnything : am_M := am_mk co_P_touchesAnything fl_P_touchesAnything (cb_P_touchesAnything.map (fun z => z.2)) [] [] none 1
def f_P_touchesAnything : am_F := am_mf m_P_touchesAnything 1
theorem o_P_touchesAnything : am_ok m_P_touchesAnything := am_mk_ok (am_cb_ok (fun _ h => absurd h List.not_mem_nil))
theorem n_P_touchesAnything : am_mono f_P_touchesAnything := am_mf_mono o_P_touchesAnything
theorem g_P_touchesAnything : ∀ x q, am_cal m_P_touchesAnything x = some q → am_grow q.2.2 := am_mk_grow (am_cb_gr (fun _ h => absurd h List.not_mem_nil))
theorem h_P_touchesAnything : am_grow f_P_touchesAnything := am_mf_grow g_P_touchesAnything
def y_L_copy : MethodName := ⟨"PatchedMachine$Layout", "copy", "(LPatchedMachine$Layout;)V"⟩
def co_L_copy : List (Nat × Instr) := [(0, .aload_n 0), (1, .aload_n 1), (2, .getfield 21), (5, .putfield 21), (8, .aload_n 1), (9, .getfield 9), (12, .iconst 0), (13, .aload_n 0), (14, .getfield 9), (17, .iconst 0), (18, .iconst 4), (19, .invokestatic 33), (22, .aload_n 1), (23, .getfield 15), (26, .iconst 0), (27, .aload_n 0), (28, .getfield 15), (31, .iconst 0), (32, .iconst 4), (33, .invokestatic 33), (36, .aload_n 1), (37, .getfield 18), (40, .iconst 0), (41, .aload_n 0), (42, .getfield 18), (45, .iconst 0), (46, .iconst 4), (47, .invokestatic 33), (50, .return_)]
def fl_L_copy : List (Nat × Nat × Nat × Nat) := [(21, 0, 3, 0), (9, 0, 0, 2), (15, 0, 1, 2), (18, 0, 2, 2)]
def cb_L_copy : List (Instr × Nat × Nat × Option Nat × am_F) := [(.invokestatic 33, 33, 5, none, am_cpy)]
def m_L_copy : am_M := am_mk co_L_copy fl_L_copy (cb_L_copy.map (fun z => z.2)) [] [] none 2
def f_L_copy : am_F := am_mf m_L_copy 2
theorem o_L_copy : am_ok m_L_copy := am_mk_ok (am_cb_ok (List.forall_mem_cons.mpr ⟨am_cpy_mono, (fun _ h => absurd h List.not_mem_nil)⟩))
theorem n_L_copy : am_mono f_L_copy := am_mf_mono o_L_copy
theorem g_L_copy : ∀ x q, am_cal m_L_copy x = some q → am_grow q.2.2 := am_mk_grow (am_cb_gr (List.forall_mem_cons.mpr ⟨am_cpy_grow, (fun _ h => absurd h List.not_mem_nil)⟩))
theorem h_L_copy : am_grow f_L_copy := am_mf_grow g_L_copy
def y_R_copy : MethodName := ⟨"PatchedMachine$Routine", "copy", "(LPatchedMachine$Routine;)V"⟩
def co_R_copy : List (Nat × Instr) := [(0, .aload_n 0), (1, .aload_n 1), (2, .getfield 24), (5, .putfield 24), (8, .aload_n 0), (9, .aload_n 1), (10, .getfield 28), (13, .putfield 28), (16, .aload_n 0), (17, .aload_n 1), (18, .getfield 31), (21, .putfield 31), (24, .aload_n 1), (25, .getfield 9), (28, .iconst 0), (29, .aload_n 0), (30, .getfield 9), (33, .iconst 0), (34, .iconst 4), (35, .invokestatic 38), (38, .aload_n 1), (39, .getfield 15), (42, .iconst 0), (43, .aload_n 0), (44, .getfield 15), (47, .iconst 0), (48, .bipush 14), (50, .invokestatic 38), (53, .aload_n 1), (54, .getfield 18), (57, .iconst 0), (58, .aload_n 0), (59, .getfield 18), (62, .iconst 0), (63, .bipush 14), (65, .invokestatic 38), (68, .aload_n 1), (69, .getfield 21), (72, .iconst 0), (73, .aload_n 0), (74, .getfield 21), (77, .iconst 0), (78, .bipush 14), (80, .invokestatic 38), (83, .return_)]
def fl_R_copy : List (Nat × Nat × Nat × Nat) := [(24, 1, 4, 0), (28, 1, 5, 0), (31, 1, 6, 0), (9, 1, 0, 2), (15, 1, 1, 2), (18, 1, 2, 2), (21, 1, 3, 2)]
def cb_R_copy : List (Instr × Nat × Nat × Option Nat × am_F) := [(.invokestatic 38, 38, 5, none, am_cpy)]
def m_R_copy : am_M := am_mk co_R_copy fl_R_copy (cb_R_copy.map (fun z => z.2)) [] [] none 2
def f_R_copy : am_F := am_mf m_R_copy 2
theorem o_R_copy : am_ok m_R_copy := am_mk_ok (am_cb_ok (List.forall_mem_cons.mpr ⟨am_cpy_mono, (fun _ h => absurd h List.not_mem_nil)⟩))
theorem n_R_copy : am_mono f_R_copy := am_mf_mono o_R_copy
theorem g_R_copy : ∀ x q, am_cal m_R_copy x = some q → am_grow q.2.2 := am_mk_grow (am_cb_gr (List.forall_mem_cons.mpr ⟨am_cpy_grow, (fun _ h => absurd h List.not_mem_nil)⟩))
theorem h_R_copy : am_grow f_R_copy := am_mf_grow g_R_copy
def y_P_copy : MethodName := ⟨"PatchedMachine$Program", "copy", "(LPatchedMachine$Program;)V"⟩
def co_P_copy : List (Nat × Instr) := [(0, .iconst 0), (1, .istore_n 2), (2, .iload_n 2), (3, .iconst 3), (4, .if_icmp .gt 24), (7, .aload_n 0), (8, .getfield 11), (11, .iload_n 2), (12, .aaload), (13, .aload_n 1), (14, .getfield 11), (17, .iload_n 2), (18, .aaload), (19, .invokevirtual 42), (22, .iinc 2 1), (25, .goto (-23)), (28, .iconst 0), (29, .istore_n 2), (30, .iload_n 2), (31, .bipush 6), (33, .if_icmp .ge 24), (36, .aload_n 0), (37, .getfield 19), (40, .iload_n 2), (41, .aaload), (42, .aload_n 1), (43, .getfield 19), (46, .iload_n 2), (47, .aaload), (48, .invokevirtual 46), (51, .iinc 2 1), (54, .goto (-24)), (57, .aload_n 0), (58, .aload_n 1), (59, .getfield 23), (62, .putfield 23), (65, .aload_n 0), (66, .aload_n 1), (67, .getfield 27), (70, .putfield 27), (73, .aload_n 0), (74, .aload_n 1), (75, .getfield 30), (78, .putfield 30), (81, .return_)]
def fl_P_copy : List (Nat × Nat × Nat × Nat) := [(11, 2, 0, 2), (19, 2, 1, 2), (23, 2, 2, 0), (27, 2, 3, 0), (30, 2, 4, 0)]
def cb_P_copy : List (Instr × Nat × Nat × Option Nat × am_F) := [(.invokevirtual 42, 42, 2, (some 0), f_L_copy), (.invokevirtual 46, 46, 2, (some 1), f_R_copy)]
def m_P_copy : am_M := am_mk co_P_copy fl_P_copy (cb_P_copy.map (fun z => z.2)) [] [] none 2
def f_P_copy : am_F := am_mf m_P_copy 2
theorem o_P_copy : am_ok m_P_copy := am_mk_ok (am_cb_ok (List.forall_mem_cons.mpr ⟨n_L_copy, (List.forall_mem_cons.mpr ⟨n_R_copy, (fun _ h => absurd h List.not_mem_nil)⟩)⟩))
theorem n_P_copy : am_mono f_P_copy := am_mf_mono o_P_copy
theorem g_P_copy : ∀ x q, am_cal m_P_copy x = some q → am_grow q.2.2 := am_mk_grow (am_cb_gr (List.forall_mem_cons.mpr ⟨h_L_copy, (List.forall_mem_cons.mpr ⟨h_R_copy, (fun _ h => absurd h List.not_mem_nil)⟩)⟩))
theorem h_P_copy : am_grow f_P_copy := am_mf_grow g_P_copy
def y_P_beginAs : MethodName := ⟨"PatchedMachine$Program", "beginAs", "(LPatchedMachine$Program;)V"⟩
def co_P_beginAs : List (Nat × Instr) := [(0, .aload_n 0), (1, .aload_n 1), (2, .invokevirtual 49), (5, .aload_n 0), (6, .iconst 0), (7, .putfield 23), (10, .aload_n 0), (11, .iconst 0), (12, .putfield 27), (15, .aload_n 0), (16, .iconst 0), (17, .putfield 30), (20, .return_)]
def fl_P_beginAs : List (Nat × Nat × Nat × Nat) := [(23, 2, 2, 0), (27, 2, 3, 0), (30, 2, 4, 0)]
def cb_P_beginAs : List (Instr × Nat × Nat × Option Nat × am_F) := [(.invokevirtual 49, 49, 2, (some 2), f_P_copy)]
def m_P_beginAs : am_M := am_mk co_P_beginAs fl_P_beginAs (cb_P_beginAs.map (fun z => z.2)) [] [] none 2
def f_P_beginAs : am_F := am_mf m_P_beginAs 2
theorem o_P_beginAs : am_ok m_P_beginAs := am_mk_ok (am_cb_ok (List.forall_mem_cons.mpr ⟨n_P_copy, (fun _ h => absurd h List.not_mem_nil)⟩))
theorem n_P_beginAs : am_mono f_P_beginAs := am_mf_mono o_P_beginAs
theorem g_P_beginAs : ∀ x q, am_cal m_P_beginAs x = some q → am_grow q.2.2 := am_mk_grow (am_cb_gr (List.forall_mem_cons.mpr ⟨h_P_copy, (fun _ h => absurd h List.not_mem_nil)⟩))
theorem h_P_beginAs : am_grow f_P_beginAs := am_mf_grow g_P_beginAs
def y_X_drop : MethodName := ⟨"PatchedMachine", "drop", "()Z"⟩
def co_X_drop : List (Nat × Instr) := [(0, .aload_n 0), (1, .getfield 10), (4, .invokevirtual 111), (7, .ifCond .ne 5), (10, .iconst 0), (11, .ireturn), (12, .aload_n 0), (13, .getfield 10), (16, .aload_n 0), (17, .getfield 19), (20, .invokevirtual 75), (23, .invokevirtual 114), (26, .iconst 1), (27, .ireturn)]
def fl_X_drop : List (Nat × Nat × Nat × Nat) := [(10, 9, 0, 2), (19, 9, 1, 2)]
def cb_X_drop : List (Instr × Nat × Nat × Option Nat × am_F) := [(.invokevirtual 111, 111, 1, (some 2), f_P_touchesAnything), (.invokevirtual 75, 75, 1, (some 3), f_Q_newest), (.invokevirtual 114, 114, 2, (some 2), f_P_beginAs)]
def m_X_drop : am_M := am_mk co_X_drop fl_X_drop (cb_X_drop.map (fun z => z.2)) [] [] none 1
def f_X_drop : am_F := am_mf m_X_drop 1
theorem o_X_drop : am_ok m_X_drop := am_mk_ok (am_cb_ok (List.forall_mem_cons.mpr ⟨n_P_touchesAnything, (List.forall_mem_cons.mpr ⟨n_Q_newest, (List.forall_mem_cons.mpr ⟨n_P_beginAs, (fun _ h => absurd h List.not_mem_nil)⟩)⟩)⟩))
theorem n_X_drop : am_mono f_X_drop := am_mf_mono o_X_drop
theorem g_X_drop : ∀ x q, am_cal m_X_drop x = some q → am_grow q.2.2 := am_mk_grow (am_cb_gr (List.forall_mem_cons.mpr ⟨h_P_touchesAnything, (List.forall_mem_cons.mpr ⟨h_Q_newest, (List.forall_mem_cons.mpr ⟨h_P_beginAs, (fun _ h => absurd h List.not_mem_nil)⟩)⟩)⟩))
theorem h_X_drop : am_grow f_X_drop := am_mf_grow g_X_drop
def y_Q_isFull : MethodName := ⟨"PatchedMachine$PatchLine", "isFull", "()Z"⟩
def co_Q_isFull : List (Nat × Instr) := [(0, .aload_n 0), (1, .getfield 21), (4, .iconst 3), (5, .if_icmp .lt 7), (8, .iconst 1), (9, .goto 4), (12, .iconst 0), (13, .ireturn)]
def fl_Q_isFull : List (Nat × Nat × Nat × Nat) := [(21, 3, 2, 0)]
def cb_Q_isFull : List (Instr × Nat × Nat × Option Nat × am_F) := []
def m_Q_isFull : am_M := am_mk co_Q_isFull fl_Q_isFull (cb_Q_isFull.map (fun z => z.2)) [] [] none 1
def f_Q_isFull : am_F := am_mf m_Q_isFull 1
theorem o_Q_isFull : am_ok m_Q_isFull := am_mk_ok (am_cb_ok (fun _ h => absurd h List.not_mem_nil))
theorem n_Q_isFull : am_mono f_Q_isFull := am_mf_mono o_Q_isFull
theorem g_Q_isFull : ∀ x q, am_cal m_Q_isFull x = some q → am_grow q.2.2 := am_mk_grow (am_cb_gr (fun _ h => absurd h List.not_mem_nil))
theorem h_Q_isFull : am_grow f_Q_isFull := am_mf_grow g_Q_isFull
def y_R_jumpsTo : MethodName := ⟨"PatchedMachine$Routine", "jumpsTo", "(I)Z"⟩
def co_R_jumpsTo : List (Nat × Instr) := [(0, .iconst 0), (1, .istore_n 2), (2, .iload_n 2), (3, .aload_n 0), (4, .getfield 31), (7, .if_icmp .ge 43), (10, .aload_n 0), (11, .getfield 15), (14, .iload_n 2), (15, .iaload), (16, .bipush 8), (18, .if_icmp .eq 14), (21, .aload_n 0), (22, .getfield 15), (25, .iload_n 2), (26, .iaload), (27, .bipush 9), (29, .if_icmp .ne 15), (32, .aload_n 0), (33, .getfield 18), (36, .iload_n 2), (37, .iaload), (38, .iload_n 1), (39, .if_icmp .ne 5), (42, .iconst 1), (43, .ireturn), (44, .iinc 2 1), (47, .goto (-45)), (50, .iconst 0), (51, .ireturn)]
def fl_R_jumpsTo : List (Nat × Nat × Nat × Nat) := [(31, 1, 6, 0), (15, 1, 1, 2), (18, 1, 2, 2)]
def cb_R_jumpsTo : List (Instr × Nat × Nat × Option Nat × am_F) := []
def m_R_jumpsTo : am_M := am_mk co_R_jumpsTo fl_R_jumpsTo (cb_R_jumpsTo.map (fun z => z.2)) [] [] none 1
def f_R_jumpsTo : am_F := am_mf m_R_jumpsTo 2
theorem o_R_jumpsTo : am_ok m_R_jumpsTo := am_mk_ok (am_cb_ok (fun _ h => absurd h List.not_mem_nil))
theorem n_R_jumpsTo : am_mono f_R_jumpsTo := am_mf_mono o_R_jumpsTo
theorem g_R_jumpsTo : ∀ x q, am_cal m_R_jumpsTo x = some q → am_grow q.2.2 := am_mk_grow (am_cb_gr (fun _ h => absurd h List.not_mem_nil))
theorem h_R_jumpsTo : am_grow f_R_jumpsTo := am_mf_grow g_R_jumpsTo
def y_C_needEmpty : MethodName := ⟨"PatchedMachine$Checker", "needEmpty", "()V"⟩
def co_C_needEmpty : List (Nat × Instr) := [(0, .aload_n 0), (1, .getfield 15), (4, .ifCond .eq 8), (7, .aload_n 0), (8, .iconst 1), (9, .putfield 19), (12, .return_)]
def fl_C_needEmpty : List (Nat × Nat × Nat × Nat) := [(15, 4, 1, 0), (19, 4, 2, 1)]
def cb_C_needEmpty : List (Instr × Nat × Nat × Option Nat × am_F) := []
def m_C_needEmpty : am_M := am_mk co_C_needEmpty fl_C_needEmpty (cb_C_needEmpty.map (fun z => z.2)) [] [] none 2
def f_C_needEmpty : am_F := am_mf m_C_needEmpty 1
theorem o_C_needEmpty : am_ok m_C_needEmpty := am_mk_ok (am_cb_ok (fun _ h => absurd h List.not_mem_nil))
theorem n_C_needEmpty : am_mono f_C_needEmpty := am_mf_mono o_C_needEmpty
theorem g_C_needEmpty : ∀ x q, am_cal m_C_needEmpty x = some q → am_grow q.2.2 := am_mk_grow (am_cb_gr (fun _ h => absurd h List.not_mem_nil))
theorem h_C_needEmpty : am_grow f_C_needEmpty := am_mf_grow g_C_needEmpty
def y_C_put : MethodName := ⟨"PatchedMachine$Checker", "put", "(I)V"⟩
def co_C_put : List (Nat × Instr) := [(0, .aload_n 0), (1, .getfield 15), (4, .bipush 6), (6, .if_icmp .lt 9), (9, .aload_n 0), (10, .iconst 1), (11, .putfield 19), (14, .return_), (15, .aload_n 0), (16, .getfield 9), (19, .aload_n 0), (20, .getfield 15), (23, .iload_n 1), (24, .iastore), (25, .aload_n 0), (26, .dup), (27, .getfield 15), (30, .iconst 1), (31, .iadd), (32, .putfield 15), (35, .return_)]
def fl_C_put : List (Nat × Nat × Nat × Nat) := [(15, 4, 1, 0), (19, 4, 2, 1), (9, 4, 0, 2)]
def cb_C_put : List (Instr × Nat × Nat × Option Nat × am_F) := []
def m_C_put : am_M := am_mk co_C_put fl_C_put (cb_C_put.map (fun z => z.2)) [] [] none 2
def f_C_put : am_F := am_mf m_C_put 2
theorem o_C_put : am_ok m_C_put := am_mk_ok (am_cb_ok (fun _ h => absurd h List.not_mem_nil))
theorem n_C_put : am_mono f_C_put := am_mf_mono o_C_put
theorem g_C_put : ∀ x q, am_cal m_C_put x = some q → am_grow q.2.2 := am_mk_grow (am_cb_gr (fun _ h => absurd h List.not_mem_nil))
theorem h_C_put : am_grow f_C_put := am_mf_grow g_C_put
def y_C_take : MethodName := ⟨"PatchedMachine$Checker", "take", "(I)V"⟩
def co_C_take : List (Nat × Instr) := [(0, .aload_n 0), (1, .getfield 15), (4, .ifCond .ne 9), (7, .aload_n 0), (8, .iconst 1), (9, .putfield 19), (12, .return_), (13, .aload_n 0), (14, .dup), (15, .getfield 15), (18, .iconst 1), (19, .isub), (20, .putfield 15), (23, .aload_n 0), (24, .getfield 9), (27, .aload_n 0), (28, .getfield 15), (31, .iaload), (32, .iload_n 1), (33, .if_icmp .eq 8), (36, .aload_n 0), (37, .iconst 1), (38, .putfield 19), (41, .return_)]
def fl_C_take : List (Nat × Nat × Nat × Nat) := [(15, 4, 1, 0), (19, 4, 2, 1), (9, 4, 0, 2)]
def cb_C_take : List (Instr × Nat × Nat × Option Nat × am_F) := []
def m_C_take : am_M := am_mk co_C_take fl_C_take (cb_C_take.map (fun z => z.2)) [] [] none 2
def f_C_take : am_F := am_mf m_C_take 2
theorem o_C_take : am_ok m_C_take := am_mk_ok (am_cb_ok (fun _ h => absurd h List.not_mem_nil))
theorem n_C_take : am_mono f_C_take := am_mf_mono o_C_take
theorem g_C_take : ∀ x q, am_cal m_C_take x = some q → am_grow q.2.2 := am_mk_grow (am_cb_gr (fun _ h => absurd h List.not_mem_nil))
theorem h_C_take : am_grow f_C_take := am_mf_grow g_C_take
def y_R_hasPlace : MethodName := ⟨"PatchedMachine$Routine", "hasPlace", "(I)Z"⟩
def co_R_hasPlace : List (Nat × Instr) := [(0, .iload_n 1), (1, .ifCond .lt 15), (4, .iload_n 1), (5, .aload_n 0), (6, .getfield 31), (9, .if_icmp .ge 7), (12, .iconst 1), (13, .goto 4), (16, .iconst 0), (17, .ireturn)]
def fl_R_hasPlace : List (Nat × Nat × Nat × Nat) := [(31, 1, 6, 0)]
def cb_R_hasPlace : List (Instr × Nat × Nat × Option Nat × am_F) := []
def m_R_hasPlace : am_M := am_mk co_R_hasPlace fl_R_hasPlace (cb_R_hasPlace.map (fun z => z.2)) [] [] none 1
def f_R_hasPlace : am_F := am_mf m_R_hasPlace 2
theorem o_R_hasPlace : am_ok m_R_hasPlace := am_mk_ok (am_cb_ok (fun _ h => absurd h List.not_mem_nil))
theorem n_R_hasPlace : am_mono f_R_hasPlace := am_mf_mono o_R_hasPlace
theorem g_R_hasPlace : ∀ x q, am_cal m_R_hasPlace x = some q → am_grow q.2.2 := am_mk_grow (am_cb_gr (fun _ h => absurd h List.not_mem_nil))
theorem h_R_hasPlace : am_grow f_R_hasPlace := am_mf_grow g_R_hasPlace
def y_C_checkJump : MethodName := ⟨"PatchedMachine$Checker", "checkJump", "(LPatchedMachine$Routine;I)V"⟩
def co_C_checkJump : List (Nat × Instr) := [(0, .aload_n 0), (1, .invokevirtual 42), (4, .aload_n 1), (5, .iload_n 2), (6, .invokevirtual 102), (9, .ifCond .ne 8), (12, .aload_n 0), (13, .iconst 1), (14, .putfield 19), (17, .return_)]
def fl_C_checkJump : List (Nat × Nat × Nat × Nat) := [(19, 4, 2, 1)]
def cb_C_checkJump : List (Instr × Nat × Nat × Option Nat × am_F) := [(.invokevirtual 42, 42, 1, (some 4), f_C_needEmpty), (.invokevirtual 102, 102, 2, (some 1), f_R_hasPlace)]
def m_C_checkJump : am_M := am_mk co_C_checkJump fl_C_checkJump (cb_C_checkJump.map (fun z => z.2)) [] [] none 2
def f_C_checkJump : am_F := am_mf m_C_checkJump 3
theorem o_C_checkJump : am_ok m_C_checkJump := am_mk_ok (am_cb_ok (List.forall_mem_cons.mpr ⟨n_C_needEmpty, (List.forall_mem_cons.mpr ⟨n_R_hasPlace, (fun _ h => absurd h List.not_mem_nil)⟩)⟩))
theorem n_C_checkJump : am_mono f_C_checkJump := am_mf_mono o_C_checkJump
theorem g_C_checkJump : ∀ x q, am_cal m_C_checkJump x = some q → am_grow q.2.2 := am_mk_grow (am_cb_gr (List.forall_mem_cons.mpr ⟨h_C_needEmpty, (List.forall_mem_cons.mpr ⟨h_R_hasPlace, (fun _ h => absurd h List.not_mem_nil)⟩)⟩))
theorem h_C_checkJump : am_grow f_C_checkJump := am_mf_grow g_C_checkJump
def y_C_needField : MethodName := ⟨"PatchedMachine$Checker", "needField", "(I)V"⟩
def co_C_needField : List (Nat × Instr) := [(0, .iload_n 1), (1, .iconst (-1)), (2, .if_icmp .ne 8), (5, .aload_n 0), (6, .iconst 1), (7, .putfield 19), (10, .return_)]
def fl_C_needField : List (Nat × Nat × Nat × Nat) := [(19, 4, 2, 1)]
def cb_C_needField : List (Instr × Nat × Nat × Option Nat × am_F) := []
def m_C_needField : am_M := am_mk co_C_needField fl_C_needField (cb_C_needField.map (fun z => z.2)) [] [] none 2
def f_C_needField : am_F := am_mf m_C_needField 2
theorem o_C_needField : am_ok m_C_needField := am_mk_ok (am_cb_ok (fun _ h => absurd h List.not_mem_nil))
theorem n_C_needField : am_mono f_C_needField := am_mf_mono o_C_needField
theorem g_C_needField : ∀ x q, am_cal m_C_needField x = some q → am_grow q.2.2 := am_mk_grow (am_cb_gr (fun _ h => absurd h List.not_mem_nil))
theorem h_C_needField : am_grow f_C_needField := am_mf_grow g_C_needField
def y_C_checkGet : MethodName := ⟨"PatchedMachine$Checker", "checkGet", "(II)V"⟩
def co_C_checkGet : List (Nat × Instr) := [(0, .aload_n 0), (1, .iload_n 1), (2, .invokevirtual 65), (5, .aload_n 0), (6, .iload_n 2), (7, .invokevirtual 105), (10, .aload_n 0), (11, .iload_n 2), (12, .invokevirtual 59), (15, .return_)]
def fl_C_checkGet : List (Nat × Nat × Nat × Nat) := []
def cb_C_checkGet : List (Instr × Nat × Nat × Option Nat × am_F) := [(.invokevirtual 65, 65, 2, (some 4), f_C_take), (.invokevirtual 105, 105, 2, (some 4), f_C_needField), (.invokevirtual 59, 59, 2, (some 4), f_C_put)]
def m_C_checkGet : am_M := am_mk co_C_checkGet fl_C_checkGet (cb_C_checkGet.map (fun z => z.2)) [] [] none 2
def f_C_checkGet : am_F := am_mf m_C_checkGet 3
theorem o_C_checkGet : am_ok m_C_checkGet := am_mk_ok (am_cb_ok (List.forall_mem_cons.mpr ⟨n_C_take, (List.forall_mem_cons.mpr ⟨n_C_needField, (List.forall_mem_cons.mpr ⟨n_C_put, (fun _ h => absurd h List.not_mem_nil)⟩)⟩)⟩))
theorem n_C_checkGet : am_mono f_C_checkGet := am_mf_mono o_C_checkGet
theorem g_C_checkGet : ∀ x q, am_cal m_C_checkGet x = some q → am_grow q.2.2 := am_mk_grow (am_cb_gr (List.forall_mem_cons.mpr ⟨h_C_take, (List.forall_mem_cons.mpr ⟨h_C_needField, (List.forall_mem_cons.mpr ⟨h_C_put, (fun _ h => absurd h List.not_mem_nil)⟩)⟩)⟩))
theorem h_C_checkGet : am_grow f_C_checkGet := am_mf_grow g_C_checkGet
def y_C_checkPut : MethodName := ⟨"PatchedMachine$Checker", "checkPut", "(II)V"⟩
def co_C_checkPut : List (Nat × Instr) := [(0, .aload_n 0), (1, .iload_n 2), (2, .invokevirtual 105), (5, .aload_n 0), (6, .iload_n 2), (7, .invokevirtual 65), (10, .aload_n 0), (11, .iload_n 1), (12, .invokevirtual 65), (15, .return_)]
def fl_C_checkPut : List (Nat × Nat × Nat × Nat) := []
def cb_C_checkPut : List (Instr × Nat × Nat × Option Nat × am_F) := [(.invokevirtual 105, 105, 2, (some 4), f_C_needField), (.invokevirtual 65, 65, 2, (some 4), f_C_take)]
def m_C_checkPut : am_M := am_mk co_C_checkPut fl_C_checkPut (cb_C_checkPut.map (fun z => z.2)) [] [] none 2
def f_C_checkPut : am_F := am_mf m_C_checkPut 3
theorem o_C_checkPut : am_ok m_C_checkPut := am_mk_ok (am_cb_ok (List.forall_mem_cons.mpr ⟨n_C_needField, (List.forall_mem_cons.mpr ⟨n_C_take, (fun _ h => absurd h List.not_mem_nil)⟩)⟩))
theorem n_C_checkPut : am_mono f_C_checkPut := am_mf_mono o_C_checkPut
theorem g_C_checkPut : ∀ x q, am_cal m_C_checkPut x = some q → am_grow q.2.2 := am_mk_grow (am_cb_gr (List.forall_mem_cons.mpr ⟨h_C_needField, (List.forall_mem_cons.mpr ⟨h_C_take, (fun _ h => absurd h List.not_mem_nil)⟩)⟩))
theorem h_C_checkPut : am_grow f_C_checkPut := am_mf_grow g_C_checkPut
def y_R_isDefined : MethodName := ⟨"PatchedMachine$Routine", "isDefined", "()Z"⟩
def co_R_isDefined : List (Nat × Instr) := [(0, .aload_n 0), (1, .getfield 31), (4, .ifCond .le 7), (7, .iconst 1), (8, .goto 4), (11, .iconst 0), (12, .ireturn)]
def fl_R_isDefined : List (Nat × Nat × Nat × Nat) := [(31, 1, 6, 0)]
def cb_R_isDefined : List (Instr × Nat × Nat × Option Nat × am_F) := []
def m_R_isDefined : am_M := am_mk co_R_isDefined fl_R_isDefined (cb_R_isDefined.map (fun z => z.2)) [] [] none 1
def f_R_isDefined : am_F := am_mf m_R_isDefined 1
theorem o_R_isDefined : am_ok m_R_isDefined := am_mk_ok (am_cb_ok (fun _ h => absurd h List.not_mem_nil))
theorem n_R_isDefined : am_mono f_R_isDefined := am_mf_mono o_R_isDefined
theorem g_R_isDefined : ∀ x q, am_cal m_R_isDefined x = some q → am_grow q.2.2 := am_mk_grow (am_cb_gr (fun _ h => absurd h List.not_mem_nil))
theorem h_R_isDefined : am_grow f_R_isDefined := am_mf_grow g_R_isDefined
def y_C_checkCall : MethodName := ⟨"PatchedMachine$Checker", "checkCall", "(LPatchedMachine$Routine;)V"⟩
def co_C_checkCall : List (Nat × Instr) := [(0, .aload_n 1), (1, .invokevirtual 108), (4, .ifCond .ne 8), (7, .aload_n 0), (8, .iconst 1), (9, .putfield 19), (12, .aload_n 1), (13, .getfield 112), (16, .iconst 1), (17, .isub), (18, .istore_n 2), (19, .iload_n 2), (20, .ifCond .lt 19), (23, .aload_n 0), (24, .aload_n 1), (25, .getfield 62), (28, .iload_n 2), (29, .iaload), (30, .invokevirtual 65), (33, .iinc 2 (-1)), (36, .goto (-17)), (39, .aload_n 0), (40, .aload_n 1), (41, .getfield 96), (44, .invokevirtual 59), (47, .return_)]
def fl_C_checkCall : List (Nat × Nat × Nat × Nat) := [(19, 4, 2, 1), (112, 1, 4, 0), (62, 1, 0, 2), (96, 1, 5, 0)]
def cb_C_checkCall : List (Instr × Nat × Nat × Option Nat × am_F) := [(.invokevirtual 108, 108, 1, (some 1), f_R_isDefined), (.invokevirtual 65, 65, 2, (some 4), f_C_take), (.invokevirtual 59, 59, 2, (some 4), f_C_put)]
def m_C_checkCall : am_M := am_mk co_C_checkCall fl_C_checkCall (cb_C_checkCall.map (fun z => z.2)) [] [] none 2
def f_C_checkCall : am_F := am_mf m_C_checkCall 2
theorem o_C_checkCall : am_ok m_C_checkCall := am_mk_ok (am_cb_ok (List.forall_mem_cons.mpr ⟨n_R_isDefined, (List.forall_mem_cons.mpr ⟨n_C_take, (List.forall_mem_cons.mpr ⟨n_C_put, (fun _ h => absurd h List.not_mem_nil)⟩)⟩)⟩))
theorem n_C_checkCall : am_mono f_C_checkCall := am_mf_mono o_C_checkCall
theorem g_C_checkCall : ∀ x q, am_cal m_C_checkCall x = some q → am_grow q.2.2 := am_mk_grow (am_cb_gr (List.forall_mem_cons.mpr ⟨h_R_isDefined, (List.forall_mem_cons.mpr ⟨h_C_take, (List.forall_mem_cons.mpr ⟨h_C_put, (fun _ h => absurd h List.not_mem_nil)⟩)⟩)⟩))
theorem h_C_checkCall : am_grow f_C_checkCall := am_mf_grow g_C_checkCall
def y_C_takeTwoPutInt : MethodName := ⟨"PatchedMachine$Checker", "takeTwoPutInt", "(I)V"⟩
def co_C_takeTwoPutInt : List (Nat × Instr) := [(0, .aload_n 0), (1, .iload_n 1), (2, .invokevirtual 65), (5, .aload_n 0), (6, .iload_n 1), (7, .invokevirtual 65), (10, .aload_n 0), (11, .iconst 0), (12, .invokevirtual 59), (15, .return_)]
def fl_C_takeTwoPutInt : List (Nat × Nat × Nat × Nat) := []
def cb_C_takeTwoPutInt : List (Instr × Nat × Nat × Option Nat × am_F) := [(.invokevirtual 65, 65, 2, (some 4), f_C_take), (.invokevirtual 59, 59, 2, (some 4), f_C_put)]
def m_C_takeTwoPutInt : am_M := am_mk co_C_takeTwoPutInt fl_C_takeTwoPutInt (cb_C_takeTwoPutInt.map (fun z => z.2)) [] [] none 2
def f_C_takeTwoPutInt : am_F := am_mf m_C_takeTwoPutInt 2
theorem o_C_takeTwoPutInt : am_ok m_C_takeTwoPutInt := am_mk_ok (am_cb_ok (List.forall_mem_cons.mpr ⟨n_C_take, (List.forall_mem_cons.mpr ⟨n_C_put, (fun _ h => absurd h List.not_mem_nil)⟩)⟩))
theorem n_C_takeTwoPutInt : am_mono f_C_takeTwoPutInt := am_mf_mono o_C_takeTwoPutInt
theorem g_C_takeTwoPutInt : ∀ x q, am_cal m_C_takeTwoPutInt x = some q → am_grow q.2.2 := am_mk_grow (am_cb_gr (List.forall_mem_cons.mpr ⟨h_C_take, (List.forall_mem_cons.mpr ⟨h_C_put, (fun _ h => absurd h List.not_mem_nil)⟩)⟩))
theorem h_C_takeTwoPutInt : am_grow f_C_takeTwoPutInt := am_mf_grow g_C_takeTwoPutInt
def y_C_check : MethodName := ⟨"PatchedMachine$Checker", "check", "(LPatchedMachine$Routine;ILPatchedMachine$Program;)V"⟩
def co_C_check : List (Nat × Instr) := [(0, .aload_n 1), (1, .getfield 56), (4, .iload_n 2), (5, .iaload), (6, .istore 4), (8, .aload_n 1), (9, .getfield 49), (12, .iload_n 2), (13, .iaload), (14, .tableswitch 248 0 16 #[82, 90, 99, 113, 248, 248, 248, 248, 127, 137, 90, 152, 177, 202, 216, 231, 240]), (96, .aload_n 0), (97, .iconst 0), (98, .invokevirtual 59), (101, .goto 166), (104, .aload_n 0), (105, .iload 4), (107, .invokevirtual 59), (110, .goto 157), (113, .aload_n 0), (114, .aload_n 1), (115, .getfield 62), (118, .iload 4), (120, .iaload), (121, .invokevirtual 59), (124, .goto 143), (127, .aload_n 0), (128, .aload_n 1), (129, .getfield 62), (132, .iload 4), (134, .iaload), (135, .invokevirtual 65), (138, .goto 129), (141, .aload_n 0), (142, .aload_n 1), (143, .iload 4), (145, .invokevirtual 68), (148, .goto 119), (151, .aload_n 0), (152, .iconst 0), (153, .invokevirtual 65), (156, .aload_n 0), (157, .aload_n 1), (158, .iload 4), (160, .invokevirtual 68), (163, .goto 104), (166, .aload_n 0), (167, .iload 4), (169, .aload_n 3), (170, .getfield 72), (173, .iload 4), (175, .aaload), (176, .aload_n 1), (177, .getfield 76), (180, .iload_n 2), (181, .iaload), (182, .invokevirtual 79), (185, .invokevirtual 85), (188, .goto 79), (191, .aload_n 0), (192, .iload 4), (194, .aload_n 3), (195, .getfield 72), (198, .iload 4), (200, .aaload), (201, .aload_n 1), (202, .getfield 76), (205, .iload_n 2), (206, .iaload), (207, .invokevirtual 79), (210, .invokevirtual 89), (213, .goto 54), (216, .aload_n 0), (217, .aload_n 3), (218, .getfield 23), (221, .iload 4), (223, .aaload), (224, .invokevirtual 92), (227, .goto 40), (230, .aload_n 0), (231, .aload_n 1), (232, .getfield 96), (235, .invokevirtual 65), (238, .aload_n 0), (239, .invokevirtual 42), (242, .goto 25), (245, .aload_n 0), (246, .iload 4), (248, .invokevirtual 99), (251, .goto 16), (254, .aload_n 0), (255, .iconst 0), (256, .invokevirtual 65), (259, .goto 8), (262, .aload_n 0), (263, .iconst 0), (264, .invokevirtual 99), (267, .return_)]
def fl_C_check : List (Nat × Nat × Nat × Nat) := [(56, 1, 2, 2), (49, 1, 1, 2), (62, 1, 0, 2), (72, 2, 0, 2), (76, 1, 3, 2), (23, 2, 1, 2), (96, 1, 5, 0)]
def cb_C_check : List (Instr × Nat × Nat × Option Nat × am_F) := [(.invokevirtual 59, 59, 2, (some 4), f_C_put), (.invokevirtual 65, 65, 2, (some 4), f_C_take), (.invokevirtual 68, 68, 3, (some 4), f_C_checkJump), (.invokevirtual 79, 79, 2, (some 0), f_L_typeNamed), (.invokevirtual 85, 85, 3, (some 4), f_C_checkGet), (.invokevirtual 89, 89, 3, (some 4), f_C_checkPut), (.invokevirtual 92, 92, 2, (some 4), f_C_checkCall), (.invokevirtual 42, 42, 1, (some 4), f_C_needEmpty), (.invokevirtual 99, 99, 2, (some 4), f_C_takeTwoPutInt)]
def m_C_check : am_M := am_mk co_C_check fl_C_check (cb_C_check.map (fun z => z.2)) [] [] none 2
def f_C_check : am_F := am_mf m_C_check 4
theorem o_C_check : am_ok m_C_check := am_mk_ok (am_cb_ok (List.forall_mem_cons.mpr ⟨n_C_put, (List.forall_mem_cons.mpr ⟨n_C_take, (List.forall_mem_cons.mpr ⟨n_C_checkJump, (List.forall_mem_cons.mpr ⟨n_L_typeNamed, (List.forall_mem_cons.mpr ⟨n_C_checkGet, (List.forall_mem_cons.mpr ⟨n_C_checkPut, (List.forall_mem_cons.mpr ⟨n_C_checkCall, (List.forall_mem_cons.mpr ⟨n_C_needEmpty, (List.forall_mem_cons.mpr ⟨n_C_takeTwoPutInt, (fun _ h => absurd h List.not_mem_nil)⟩)⟩)⟩)⟩)⟩)⟩)⟩)⟩)⟩))
theorem n_C_check : am_mono f_C_check := am_mf_mono o_C_check
theorem g_C_check : ∀ x q, am_cal m_C_check x = some q → am_grow q.2.2 := am_mk_grow (am_cb_gr (List.forall_mem_cons.mpr ⟨h_C_put, (List.forall_mem_cons.mpr ⟨h_C_take, (List.forall_mem_cons.mpr ⟨h_C_checkJump, (List.forall_mem_cons.mpr ⟨h_L_typeNamed, (List.forall_mem_cons.mpr ⟨h_C_checkGet, (List.forall_mem_cons.mpr ⟨h_C_checkPut, (List.forall_mem_cons.mpr ⟨h_C_checkCall, (List.forall_mem_cons.mpr ⟨h_C_needEmpty, (List.forall_mem_cons.mpr ⟨h_C_takeTwoPutInt, (fun _ h => absurd h List.not_mem_nil)⟩)⟩)⟩)⟩)⟩)⟩)⟩)⟩)⟩))
theorem h_C_check : am_grow f_C_check := am_mf_grow g_C_check
def y_C_needNoWayOut : MethodName := ⟨"PatchedMachine$Checker", "needNoWayOut", "(I)V"⟩
def co_C_needNoWayOut : List (Nat × Instr) := [(0, .iload_n 1), (1, .bipush 8), (3, .if_icmp .eq 14), (6, .iload_n 1), (7, .bipush 14), (9, .if_icmp .eq 8), (12, .aload_n 0), (13, .iconst 1), (14, .putfield 19), (17, .return_)]
def fl_C_needNoWayOut : List (Nat × Nat × Nat × Nat) := [(19, 4, 2, 1)]
def cb_C_needNoWayOut : List (Instr × Nat × Nat × Option Nat × am_F) := []
def m_C_needNoWayOut : am_M := am_mk co_C_needNoWayOut fl_C_needNoWayOut (cb_C_needNoWayOut.map (fun z => z.2)) [] [] none 2
def f_C_needNoWayOut : am_F := am_mf m_C_needNoWayOut 2
theorem o_C_needNoWayOut : am_ok m_C_needNoWayOut := am_mk_ok (am_cb_ok (fun _ h => absurd h List.not_mem_nil))
theorem n_C_needNoWayOut : am_mono f_C_needNoWayOut := am_mf_mono o_C_needNoWayOut
theorem g_C_needNoWayOut : ∀ x q, am_cal m_C_needNoWayOut x = some q → am_grow q.2.2 := am_mk_grow (am_cb_gr (fun _ h => absurd h List.not_mem_nil))
theorem h_C_needNoWayOut : am_grow f_C_needNoWayOut := am_mf_grow g_C_needNoWayOut
def y_C_firstBadPlaceOf : MethodName := ⟨"PatchedMachine$Checker", "firstBadPlaceOf", "(LPatchedMachine$Routine;LPatchedMachine$Program;)I"⟩
def co_C_firstBadPlaceOf : List (Nat × Instr) := [(0, .aload_n 0), (1, .iconst 0), (2, .putfield 15), (5, .aload_n 0), (6, .iconst 0), (7, .putfield 19), (10, .iconst 0), (11, .istore_n 3), (12, .iload_n 3), (13, .aload_n 1), (14, .getfield 33), (17, .if_icmp .ge 57), (20, .aload_n 1), (21, .iload_n 3), (22, .invokevirtual 38), (25, .ifCond .eq 7), (28, .aload_n 0), (29, .invokevirtual 42), (32, .aload_n 0), (33, .aload_n 1), (34, .iload_n 3), (35, .aload_n 2), (36, .invokevirtual 45), (39, .iload_n 3), (40, .aload_n 1), (41, .getfield 33), (44, .iconst 1), (45, .isub), (46, .if_icmp .ne 13), (49, .aload_n 0), (50, .aload_n 1), (51, .getfield 49), (54, .iload_n 3), (55, .iaload), (56, .invokevirtual 52), (59, .aload_n 0), (60, .getfield 19), (63, .ifCond .eq 5), (66, .iload_n 3), (67, .ireturn), (68, .iinc 3 1), (71, .goto (-59)), (74, .iconst (-1)), (75, .ireturn)]
def fl_C_firstBadPlaceOf : List (Nat × Nat × Nat × Nat) := [(15, 4, 1, 0), (19, 4, 2, 1), (33, 1, 6, 0), (49, 1, 1, 2)]
def cb_C_firstBadPlaceOf : List (Instr × Nat × Nat × Option Nat × am_F) := [(.invokevirtual 38, 38, 2, (some 1), f_R_jumpsTo), (.invokevirtual 42, 42, 1, (some 4), f_C_needEmpty), (.invokevirtual 45, 45, 4, (some 4), f_C_check), (.invokevirtual 52, 52, 2, (some 4), f_C_needNoWayOut)]
def m_C_firstBadPlaceOf : am_M := am_mk co_C_firstBadPlaceOf fl_C_firstBadPlaceOf (cb_C_firstBadPlaceOf.map (fun z => z.2)) [] [] none 0
def f_C_firstBadPlaceOf : am_F := am_mf m_C_firstBadPlaceOf 3
theorem o_C_firstBadPlaceOf : am_ok m_C_firstBadPlaceOf := am_mk_ok (am_cb_ok (List.forall_mem_cons.mpr ⟨n_R_jumpsTo, (List.forall_mem_cons.mpr ⟨n_C_needEmpty, (List.forall_mem_cons.mpr ⟨n_C_check, (List.forall_mem_cons.mpr ⟨n_C_needNoWayOut, (fun _ h => absurd h List.not_mem_nil)⟩)⟩)⟩)⟩))
theorem n_C_firstBadPlaceOf : am_mono f_C_firstBadPlaceOf := am_mf_mono o_C_firstBadPlaceOf
theorem g_C_firstBadPlaceOf : ∀ x q, am_cal m_C_firstBadPlaceOf x = some q → am_grow q.2.2 := am_mk_grow (am_cb_gr (List.forall_mem_cons.mpr ⟨h_R_jumpsTo, (List.forall_mem_cons.mpr ⟨h_C_needEmpty, (List.forall_mem_cons.mpr ⟨h_C_check, (List.forall_mem_cons.mpr ⟨h_C_needNoWayOut, (fun _ h => absurd h List.not_mem_nil)⟩)⟩)⟩)⟩))
theorem h_C_firstBadPlaceOf : am_grow f_C_firstBadPlaceOf := am_mf_grow g_C_firstBadPlaceOf
def y_C_firstBadPlace : MethodName := ⟨"PatchedMachine$Checker", "firstBadPlace", "(LPatchedMachine$Program;)I"⟩
def co_C_firstBadPlace : List (Nat × Instr) := [(0, .iconst 0), (1, .istore_n 2), (2, .iload_n 2), (3, .bipush 6), (5, .if_icmp .ge 33), (8, .aload_n 0), (9, .aload_n 1), (10, .getfield 23), (13, .iload_n 2), (14, .aaload), (15, .aload_n 1), (16, .invokevirtual 29), (19, .istore_n 3), (20, .iload_n 3), (21, .iconst (-1)), (22, .if_icmp .eq 10), (25, .bipush 100), (27, .iload_n 2), (28, .imul), (29, .iload_n 3), (30, .iadd), (31, .ireturn), (32, .iinc 2 1), (35, .goto (-33)), (38, .iconst (-1)), (39, .ireturn)]
def fl_C_firstBadPlace : List (Nat × Nat × Nat × Nat) := [(23, 2, 1, 2)]
def cb_C_firstBadPlace : List (Instr × Nat × Nat × Option Nat × am_F) := [(.invokevirtual 29, 29, 3, (some 4), f_C_firstBadPlaceOf)]
def m_C_firstBadPlace : am_M := am_mk co_C_firstBadPlace fl_C_firstBadPlace (cb_C_firstBadPlace.map (fun z => z.2)) [] [] none 0
def f_C_firstBadPlace : am_F := am_mf m_C_firstBadPlace 2
theorem o_C_firstBadPlace : am_ok m_C_firstBadPlace := am_mk_ok (am_cb_ok (List.forall_mem_cons.mpr ⟨n_C_firstBadPlaceOf, (fun _ h => absurd h List.not_mem_nil)⟩))
theorem n_C_firstBadPlace : am_mono f_C_firstBadPlace := am_mf_mono o_C_firstBadPlace
theorem g_C_firstBadPlace : ∀ x q, am_cal m_C_firstBadPlace x = some q → am_grow q.2.2 := am_mk_grow (am_cb_gr (List.forall_mem_cons.mpr ⟨h_C_firstBadPlaceOf, (fun _ h => absurd h List.not_mem_nil)⟩))
theorem h_C_firstBadPlace : am_grow f_C_firstBadPlace := am_mf_grow g_C_firstBadPlace
def y_R_isCalledLike : MethodName := ⟨"PatchedMachine$Routine", "isCalledLike", "(LPatchedMachine$Routine;)Z"⟩
def co_R_isCalledLike : List (Nat × Instr) := [(0, .aload_n 0), (1, .getfield 24), (4, .aload_n 1), (5, .getfield 24), (8, .if_icmp .ne 14), (11, .aload_n 0), (12, .getfield 28), (15, .aload_n 1), (16, .getfield 28), (19, .if_icmp .eq 5), (22, .iconst 0), (23, .ireturn), (24, .iconst 0), (25, .istore_n 2), (26, .iload_n 2), (27, .aload_n 0), (28, .getfield 24), (31, .if_icmp .ge 26), (34, .aload_n 0), (35, .getfield 9), (38, .iload_n 2), (39, .iaload), (40, .aload_n 1), (41, .getfield 9), (44, .iload_n 2), (45, .iaload), (46, .if_icmp .eq 5), (49, .iconst 0), (50, .ireturn), (51, .iinc 2 1), (54, .goto (-28)), (57, .iconst 1), (58, .ireturn)]
def fl_R_isCalledLike : List (Nat × Nat × Nat × Nat) := [(24, 1, 4, 0), (28, 1, 5, 0), (9, 1, 0, 2)]
def cb_R_isCalledLike : List (Instr × Nat × Nat × Option Nat × am_F) := []
def m_R_isCalledLike : am_M := am_mk co_R_isCalledLike fl_R_isCalledLike (cb_R_isCalledLike.map (fun z => z.2)) [] [] none 1
def f_R_isCalledLike : am_F := am_mf m_R_isCalledLike 2
theorem o_R_isCalledLike : am_ok m_R_isCalledLike := am_mk_ok (am_cb_ok (fun _ h => absurd h List.not_mem_nil))
theorem n_R_isCalledLike : am_mono f_R_isCalledLike := am_mf_mono o_R_isCalledLike
theorem g_R_isCalledLike : ∀ x q, am_cal m_R_isCalledLike x = some q → am_grow q.2.2 := am_mk_grow (am_cb_gr (fun _ h => absurd h List.not_mem_nil))
theorem h_R_isCalledLike : am_grow f_R_isCalledLike := am_mf_grow g_R_isCalledLike
def y_P_methodsCalledOtherwise : MethodName := ⟨"PatchedMachine$Program", "methodsCalledOtherwise", "(LPatchedMachine$Program;)I"⟩
def co_P_methodsCalledOtherwise : List (Nat × Instr) := [(0, .iconst 0), (1, .istore_n 2), (2, .iconst 0), (3, .istore_n 3), (4, .iload_n 3), (5, .bipush 6), (7, .if_icmp .ge 33), (10, .aload_n 0), (11, .getfield 19), (14, .iload_n 3), (15, .aaload), (16, .aload_n 1), (17, .getfield 19), (20, .iload_n 3), (21, .aaload), (22, .invokevirtual 63), (25, .ifCond .ne 9), (28, .iload_n 2), (29, .iconst 1), (30, .iload_n 3), (31, .ishl), (32, .ior), (33, .istore_n 2), (34, .iinc 3 1), (37, .goto (-33)), (40, .iload_n 2), (41, .ireturn)]
def fl_P_methodsCalledOtherwise : List (Nat × Nat × Nat × Nat) := [(19, 2, 1, 2)]
def cb_P_methodsCalledOtherwise : List (Instr × Nat × Nat × Option Nat × am_F) := [(.invokevirtual 63, 63, 2, (some 1), f_R_isCalledLike)]
def m_P_methodsCalledOtherwise : am_M := am_mk co_P_methodsCalledOtherwise fl_P_methodsCalledOtherwise (cb_P_methodsCalledOtherwise.map (fun z => z.2)) [] [] none 0
def f_P_methodsCalledOtherwise : am_F := am_mf m_P_methodsCalledOtherwise 2
theorem o_P_methodsCalledOtherwise : am_ok m_P_methodsCalledOtherwise := am_mk_ok (am_cb_ok (List.forall_mem_cons.mpr ⟨n_R_isCalledLike, (fun _ h => absurd h List.not_mem_nil)⟩))
theorem n_P_methodsCalledOtherwise : am_mono f_P_methodsCalledOtherwise := am_mf_mono o_P_methodsCalledOtherwise
theorem g_P_methodsCalledOtherwise : ∀ x q, am_cal m_P_methodsCalledOtherwise x = some q → am_grow q.2.2 := am_mk_grow (am_cb_gr (List.forall_mem_cons.mpr ⟨h_R_isCalledLike, (fun _ h => absurd h List.not_mem_nil)⟩))
theorem h_P_methodsCalledOtherwise : am_grow f_P_methodsCalledOtherwise := am_mf_grow g_P_methodsCalledOtherwise
def y_R_usesOneOfClasses : MethodName := ⟨"PatchedMachine$Routine", "usesOneOfClasses", "(I)Z"⟩
def co_R_usesOneOfClasses : List (Nat × Instr) := [(0, .iconst 0), (1, .istore_n 2), (2, .iload_n 2), (3, .aload_n 0), (4, .getfield 31), (7, .if_icmp .ge 67), (10, .aload_n 0), (11, .getfield 15), (14, .iload_n 2), (15, .iaload), (16, .bipush 10), (18, .if_icmp .eq 25), (21, .aload_n 0), (22, .getfield 15), (25, .iload_n 2), (26, .iaload), (27, .bipush 11), (29, .if_icmp .eq 14), (32, .aload_n 0), (33, .getfield 15), (36, .iload_n 2), (37, .iaload), (38, .bipush 12), (40, .if_icmp .ne 7), (43, .iconst 1), (44, .goto 4), (47, .iconst 0), (48, .istore_n 3), (49, .iload_n 3), (50, .ifCond .eq 18), (53, .iload_n 1), (54, .aload_n 0), (55, .getfield 18), (58, .iload_n 2), (59, .iaload), (60, .ishr), (61, .iconst 1), (62, .iand), (63, .ifCond .eq 5), (66, .iconst 1), (67, .ireturn), (68, .iinc 2 1), (71, .goto (-69)), (74, .iconst 0), (75, .ireturn)]
def fl_R_usesOneOfClasses : List (Nat × Nat × Nat × Nat) := [(31, 1, 6, 0), (15, 1, 1, 2), (18, 1, 2, 2)]
def cb_R_usesOneOfClasses : List (Instr × Nat × Nat × Option Nat × am_F) := []
def m_R_usesOneOfClasses : am_M := am_mk co_R_usesOneOfClasses fl_R_usesOneOfClasses (cb_R_usesOneOfClasses.map (fun z => z.2)) [] [] none 1
def f_R_usesOneOfClasses : am_F := am_mf m_R_usesOneOfClasses 2
theorem o_R_usesOneOfClasses : am_ok m_R_usesOneOfClasses := am_mk_ok (am_cb_ok (fun _ h => absurd h List.not_mem_nil))
theorem n_R_usesOneOfClasses : am_mono f_R_usesOneOfClasses := am_mf_mono o_R_usesOneOfClasses
theorem g_R_usesOneOfClasses : ∀ x q, am_cal m_R_usesOneOfClasses x = some q → am_grow q.2.2 := am_mk_grow (am_cb_gr (fun _ h => absurd h List.not_mem_nil))
theorem h_R_usesOneOfClasses : am_grow f_R_usesOneOfClasses := am_mf_grow g_R_usesOneOfClasses
def y_R_callsOneOfMethods : MethodName := ⟨"PatchedMachine$Routine", "callsOneOfMethods", "(I)Z"⟩
def co_R_callsOneOfMethods : List (Nat × Instr) := [(0, .iconst 0), (1, .istore_n 2), (2, .iload_n 2), (3, .aload_n 0), (4, .getfield 31), (7, .if_icmp .ge 35), (10, .aload_n 0), (11, .getfield 15), (14, .iload_n 2), (15, .iaload), (16, .bipush 13), (18, .if_icmp .ne 18), (21, .iload_n 1), (22, .aload_n 0), (23, .getfield 18), (26, .iload_n 2), (27, .iaload), (28, .ishr), (29, .iconst 1), (30, .iand), (31, .ifCond .eq 5), (34, .iconst 1), (35, .ireturn), (36, .iinc 2 1), (39, .goto (-37)), (42, .iconst 0), (43, .ireturn)]
def fl_R_callsOneOfMethods : List (Nat × Nat × Nat × Nat) := [(31, 1, 6, 0), (15, 1, 1, 2), (18, 1, 2, 2)]
def cb_R_callsOneOfMethods : List (Instr × Nat × Nat × Option Nat × am_F) := []
def m_R_callsOneOfMethods : am_M := am_mk co_R_callsOneOfMethods fl_R_callsOneOfMethods (cb_R_callsOneOfMethods.map (fun z => z.2)) [] [] none 1
def f_R_callsOneOfMethods : am_F := am_mf m_R_callsOneOfMethods 2
theorem o_R_callsOneOfMethods : am_ok m_R_callsOneOfMethods := am_mk_ok (am_cb_ok (fun _ h => absurd h List.not_mem_nil))
theorem n_R_callsOneOfMethods : am_mono f_R_callsOneOfMethods := am_mf_mono o_R_callsOneOfMethods
theorem g_R_callsOneOfMethods : ∀ x q, am_cal m_R_callsOneOfMethods x = some q → am_grow q.2.2 := am_mk_grow (am_cb_gr (fun _ h => absurd h List.not_mem_nil))
theorem h_R_callsOneOfMethods : am_grow f_R_callsOneOfMethods := am_mf_grow g_R_callsOneOfMethods
def y_P_restrict : MethodName := ⟨"PatchedMachine$Program", "restrict", "(LPatchedMachine$Program;)V"⟩
def co_P_restrict : List (Nat × Instr) := [(0, .aload_n 0), (1, .aload_n 1), (2, .invokevirtual 52), (5, .istore_n 2), (6, .aload_n 0), (7, .aload_n 0), (8, .getfield 27), (11, .putfield 30), (14, .iconst 0), (15, .istore_n 3), (16, .iload_n 3), (17, .bipush 6), (19, .if_icmp .ge 50), (22, .aload_n 1), (23, .getfield 19), (26, .iload_n 3), (27, .aaload), (28, .astore 4), (30, .aload 4), (32, .aload_n 0), (33, .getfield 23), (36, .invokevirtual 56), (39, .ifCond .ne 12), (42, .aload 4), (44, .iload_n 2), (45, .invokevirtual 60), (48, .ifCond .eq 15), (51, .aload_n 0), (52, .dup), (53, .getfield 30), (56, .iconst 1), (57, .iload_n 3), (58, .ishl), (59, .ior), (60, .putfield 30), (63, .iinc 3 1), (66, .goto (-50)), (69, .return_)]
def fl_P_restrict : List (Nat × Nat × Nat × Nat) := [(27, 2, 3, 0), (30, 2, 4, 0), (19, 2, 1, 2), (23, 2, 2, 0)]
def cb_P_restrict : List (Instr × Nat × Nat × Option Nat × am_F) := [(.invokevirtual 52, 52, 2, (some 2), f_P_methodsCalledOtherwise), (.invokevirtual 56, 56, 2, (some 1), f_R_usesOneOfClasses), (.invokevirtual 60, 60, 2, (some 1), f_R_callsOneOfMethods)]
def m_P_restrict : am_M := am_mk co_P_restrict fl_P_restrict (cb_P_restrict.map (fun z => z.2)) [] [] none 2
def f_P_restrict : am_F := am_mf m_P_restrict 2
theorem o_P_restrict : am_ok m_P_restrict := am_mk_ok (am_cb_ok (List.forall_mem_cons.mpr ⟨n_P_methodsCalledOtherwise, (List.forall_mem_cons.mpr ⟨n_R_usesOneOfClasses, (List.forall_mem_cons.mpr ⟨n_R_callsOneOfMethods, (fun _ h => absurd h List.not_mem_nil)⟩)⟩)⟩))
theorem n_P_restrict : am_mono f_P_restrict := am_mf_mono o_P_restrict
theorem g_P_restrict : ∀ x q, am_cal m_P_restrict x = some q → am_grow q.2.2 := am_mk_grow (am_cb_gr (List.forall_mem_cons.mpr ⟨h_P_methodsCalledOtherwise, (List.forall_mem_cons.mpr ⟨h_R_usesOneOfClasses, (List.forall_mem_cons.mpr ⟨h_R_callsOneOfMethods, (fun _ h => absurd h List.not_mem_nil)⟩)⟩)⟩))
theorem h_P_restrict : am_grow f_P_restrict := am_mf_grow g_P_restrict
def y_Q_add : MethodName := ⟨"PatchedMachine$PatchLine", "add", "(LPatchedMachine$Program;)V"⟩
def co_Q_add : List (Nat × Instr) := [(0, .aload_n 0), (1, .invokevirtual 25), (4, .ifCond .eq 4), (7, .return_), (8, .aload_n 0), (9, .dup), (10, .getfield 21), (13, .iconst 1), (14, .iadd), (15, .putfield 21), (18, .aload_n 0), (19, .invokevirtual 29), (22, .aload_n 1), (23, .invokevirtual 33), (26, .return_)]
def fl_Q_add : List (Nat × Nat × Nat × Nat) := [(21, 3, 2, 0)]
def cb_Q_add : List (Instr × Nat × Nat × Option Nat × am_F) := [(.invokevirtual 25, 25, 1, (some 3), f_Q_isFull), (.invokevirtual 29, 29, 1, (some 3), f_Q_newest), (.invokevirtual 33, 33, 2, (some 2), f_P_copy)]
def m_Q_add : am_M := am_mk co_Q_add fl_Q_add (cb_Q_add.map (fun z => z.2)) [] [] none 2
def f_Q_add : am_F := am_mf m_Q_add 2
theorem o_Q_add : am_ok m_Q_add := am_mk_ok (am_cb_ok (List.forall_mem_cons.mpr ⟨n_Q_isFull, (List.forall_mem_cons.mpr ⟨n_Q_newest, (List.forall_mem_cons.mpr ⟨n_P_copy, (fun _ h => absurd h List.not_mem_nil)⟩)⟩)⟩))
theorem n_Q_add : am_mono f_Q_add := am_mf_mono o_Q_add
theorem g_Q_add : ∀ x q, am_cal m_Q_add x = some q → am_grow q.2.2 := am_mk_grow (am_cb_gr (List.forall_mem_cons.mpr ⟨h_Q_isFull, (List.forall_mem_cons.mpr ⟨h_Q_newest, (List.forall_mem_cons.mpr ⟨h_P_copy, (fun _ h => absurd h List.not_mem_nil)⟩)⟩)⟩))
theorem h_Q_add : am_grow f_Q_add := am_mf_grow g_Q_add
def y_Q_firstWaiting : MethodName := ⟨"PatchedMachine$PatchLine", "firstWaiting", "()LPatchedMachine$Program;"⟩
def co_Q_firstWaiting : List (Nat × Instr) := [(0, .aload_n 0), (1, .getfield 13), (4, .aload_n 0), (5, .getfield 17), (8, .iconst 1), (9, .iadd), (10, .iconst 4), (11, .irem), (12, .aaload), (13, .areturn)]
def fl_Q_firstWaiting : List (Nat × Nat × Nat × Nat) := [(13, 3, 0, 2), (17, 3, 1, 0)]
def cb_Q_firstWaiting : List (Instr × Nat × Nat × Option Nat × am_F) := []
def m_Q_firstWaiting : am_M := am_mk co_Q_firstWaiting fl_Q_firstWaiting (cb_Q_firstWaiting.map (fun z => z.2)) [] [] none 3
def f_Q_firstWaiting : am_F := am_mf m_Q_firstWaiting 1
theorem o_Q_firstWaiting : am_ok m_Q_firstWaiting := am_mk_ok (am_cb_ok (fun _ h => absurd h List.not_mem_nil))
theorem n_Q_firstWaiting : am_mono f_Q_firstWaiting := am_mf_mono o_Q_firstWaiting
theorem g_Q_firstWaiting : ∀ x q, am_cal m_Q_firstWaiting x = some q → am_grow q.2.2 := am_mk_grow (am_cb_gr (fun _ h => absurd h List.not_mem_nil))
theorem h_Q_firstWaiting : am_grow f_Q_firstWaiting := am_mf_grow g_Q_firstWaiting
def y_U_hasFrameOfOneOf : MethodName := ⟨"PatchedMachine$Runner", "hasFrameOfOneOf", "(I)Z"⟩
def co_U_hasFrameOfOneOf : List (Nat × Instr) := [(0, .iconst 0), (1, .istore_n 2), (2, .iload_n 2), (3, .aload_n 0), (4, .getfield 31), (7, .if_icmp .ge 27), (10, .iload_n 1), (11, .aload_n 0), (12, .getfield 11), (15, .iload_n 2), (16, .aaload), (17, .getfield 46), (20, .ishr), (21, .iconst 1), (22, .iand), (23, .ifCond .eq 5), (26, .iconst 1), (27, .ireturn), (28, .iinc 2 1), (31, .goto (-29)), (34, .iconst 0), (35, .ireturn)]
def fl_U_hasFrameOfOneOf : List (Nat × Nat × Nat × Nat) := [(31, 8, 3, 0), (11, 8, 0, 2), (46, 7, 4, 0)]
def cb_U_hasFrameOfOneOf : List (Instr × Nat × Nat × Option Nat × am_F) := []
def m_U_hasFrameOfOneOf : am_M := am_mk co_U_hasFrameOfOneOf fl_U_hasFrameOfOneOf (cb_U_hasFrameOfOneOf.map (fun z => z.2)) [] [] none 1
def f_U_hasFrameOfOneOf : am_F := am_mf m_U_hasFrameOfOneOf 2
theorem o_U_hasFrameOfOneOf : am_ok m_U_hasFrameOfOneOf := am_mk_ok (am_cb_ok (fun _ h => absurd h List.not_mem_nil))
theorem n_U_hasFrameOfOneOf : am_mono f_U_hasFrameOfOneOf := am_mf_mono o_U_hasFrameOfOneOf
theorem g_U_hasFrameOfOneOf : ∀ x q, am_cal m_U_hasFrameOfOneOf x = some q → am_grow q.2.2 := am_mk_grow (am_cb_gr (fun _ h => absurd h List.not_mem_nil))
theorem h_U_hasFrameOfOneOf : am_grow f_U_hasFrameOfOneOf := am_mf_grow g_U_hasFrameOfOneOf
def y_Q_present : MethodName := ⟨"PatchedMachine$PatchLine", "present", "()LPatchedMachine$Program;"⟩
def co_Q_present : List (Nat × Instr) := [(0, .aload_n 0), (1, .getfield 13), (4, .aload_n 0), (5, .getfield 17), (8, .aaload), (9, .areturn)]
def fl_Q_present : List (Nat × Nat × Nat × Nat) := [(13, 3, 0, 2), (17, 3, 1, 0)]
def cb_Q_present : List (Instr × Nat × Nat × Option Nat × am_F) := []
def m_Q_present : am_M := am_mk co_Q_present fl_Q_present (cb_Q_present.map (fun z => z.2)) [] [] none 3
def f_Q_present : am_F := am_mf m_Q_present 1
theorem o_Q_present : am_ok m_Q_present := am_mk_ok (am_cb_ok (fun _ h => absurd h List.not_mem_nil))
theorem n_Q_present : am_mono f_Q_present := am_mf_mono o_Q_present
theorem g_Q_present : ∀ x q, am_cal m_Q_present x = some q → am_grow q.2.2 := am_mk_grow (am_cb_gr (fun _ h => absurd h List.not_mem_nil))
theorem h_Q_present : am_grow f_Q_present := am_mf_grow g_Q_present
def y_H_beginCollection : MethodName := ⟨"PatchedMachine$Heap", "beginCollection", "()V"⟩
def co_H_beginCollection : List (Nat × Instr) := [(0, .aload_n 0), (1, .iconst 0), (2, .putfield 30), (5, .iconst 0), (6, .istore_n 1), (7, .iload_n 1), (8, .bipush 16), (10, .if_icmp .ge 16), (13, .aload_n 0), (14, .getfield 23), (17, .iload_n 1), (18, .iconst 0), (19, .bastore), (20, .iinc 1 1), (23, .goto (-16)), (26, .return_)]
def fl_H_beginCollection : List (Nat × Nat × Nat × Nat) := [(30, 5, 5, 0), (23, 5, 3, 2)]
def cb_H_beginCollection : List (Instr × Nat × Nat × Option Nat × am_F) := []
def m_H_beginCollection : am_M := am_mk co_H_beginCollection fl_H_beginCollection (cb_H_beginCollection.map (fun z => z.2)) [] [] none 2
def f_H_beginCollection : am_F := am_mf m_H_beginCollection 1
theorem o_H_beginCollection : am_ok m_H_beginCollection := am_mk_ok (am_cb_ok (fun _ h => absurd h List.not_mem_nil))
theorem n_H_beginCollection : am_mono f_H_beginCollection := am_mf_mono o_H_beginCollection
theorem g_H_beginCollection : ∀ x q, am_cal m_H_beginCollection x = some q → am_grow q.2.2 := am_mk_grow (am_cb_gr (fun _ h => absurd h List.not_mem_nil))
theorem h_H_beginCollection : am_grow f_H_beginCollection := am_mf_grow g_H_beginCollection
def y_H_reach : MethodName := ⟨"PatchedMachine$Heap", "reach", "(II)V"⟩
def co_H_reach : List (Nat × Instr) := [(0, .iload_n 2), (1, .ifCond .eq 25), (4, .iload_n 1), (5, .iconst 1), (6, .if_icmp .lt 20), (9, .iload_n 1), (10, .bipush 16), (12, .if_icmp .gt 14), (15, .aload_n 0), (16, .getfield 23), (19, .iload_n 1), (20, .iconst 1), (21, .isub), (22, .baload), (23, .ifCond .eq 4), (26, .return_), (27, .aload_n 0), (28, .getfield 23), (31, .iload_n 1), (32, .iconst 1), (33, .isub), (34, .iconst 1), (35, .bastore), (36, .aload_n 0), (37, .getfield 27), (40, .aload_n 0), (41, .getfield 30), (44, .iload_n 1), (45, .iconst 1), (46, .isub), (47, .iastore), (48, .aload_n 0), (49, .dup), (50, .getfield 30), (53, .iconst 1), (54, .iadd), (55, .putfield 30), (58, .return_)]
def fl_H_reach : List (Nat × Nat × Nat × Nat) := [(23, 5, 3, 2), (27, 5, 4, 2), (30, 5, 5, 0)]
def cb_H_reach : List (Instr × Nat × Nat × Option Nat × am_F) := []
def m_H_reach : am_M := am_mk co_H_reach fl_H_reach (cb_H_reach.map (fun z => z.2)) [] [] none 2
def f_H_reach : am_F := am_mf m_H_reach 3
theorem o_H_reach : am_ok m_H_reach := am_mk_ok (am_cb_ok (fun _ h => absurd h List.not_mem_nil))
theorem n_H_reach : am_mono f_H_reach := am_mf_mono o_H_reach
theorem g_H_reach : ∀ x q, am_cal m_H_reach x = some q → am_grow q.2.2 := am_mk_grow (am_cb_gr (fun _ h => absurd h List.not_mem_nil))
theorem h_H_reach : am_grow f_H_reach := am_mf_grow g_H_reach
def y_U_reachFrom : MethodName := ⟨"PatchedMachine$Runner", "reachFrom", "(LPatchedMachine$Frame;LPatchedMachine$Routine;)V"⟩
def co_U_reachFrom : List (Nat × Instr) := [(0, .iconst 0), (1, .istore_n 3), (2, .iload_n 3), (3, .iconst 4), (4, .if_icmp .ge 28), (7, .aload_n 0), (8, .getfield 20), (11, .aload_n 1), (12, .getfield 90), (15, .iload_n 3), (16, .iaload), (17, .aload_n 2), (18, .getfield 93), (21, .iload_n 3), (22, .iaload), (23, .invokevirtual 175), (26, .iinc 3 1), (29, .goto (-27)), (32, .iconst 0), (33, .istore_n 3), (34, .iload_n 3), (35, .aload_n 1), (36, .getfield 178), (39, .if_icmp .ge 28), (42, .aload_n 0), (43, .getfield 20), (46, .aload_n 1), (47, .getfield 181), (50, .iload_n 3), (51, .iaload), (52, .aload_n 1), (53, .getfield 184), (56, .iload_n 3), (57, .iaload), (58, .invokevirtual 175), (61, .iinc 3 1), (64, .goto (-30)), (67, .return_)]
def fl_U_reachFrom : List (Nat × Nat × Nat × Nat) := [(20, 8, 1, 2), (90, 7, 0, 2), (93, 1, 0, 2), (178, 7, 3, 0), (181, 7, 1, 2), (184, 7, 2, 2)]
def cb_U_reachFrom : List (Instr × Nat × Nat × Option Nat × am_F) := [(.invokevirtual 175, 175, 3, (some 5), f_H_reach)]
def m_U_reachFrom : am_M := am_mk co_U_reachFrom fl_U_reachFrom (cb_U_reachFrom.map (fun z => z.2)) [] [] none 2
def f_U_reachFrom : am_F := am_mf m_U_reachFrom 3
theorem o_U_reachFrom : am_ok m_U_reachFrom := am_mk_ok (am_cb_ok (List.forall_mem_cons.mpr ⟨n_H_reach, (fun _ h => absurd h List.not_mem_nil)⟩))
theorem n_U_reachFrom : am_mono f_U_reachFrom := am_mf_mono o_U_reachFrom
theorem g_U_reachFrom : ∀ x q, am_cal m_U_reachFrom x = some q → am_grow q.2.2 := am_mk_grow (am_cb_gr (List.forall_mem_cons.mpr ⟨h_H_reach, (fun _ h => absurd h List.not_mem_nil)⟩))
theorem h_U_reachFrom : am_grow f_U_reachFrom := am_mf_grow g_U_reachFrom
def y_H_reachOverFields : MethodName := ⟨"PatchedMachine$Heap", "reachOverFields", "(LPatchedMachine$Program;)V"⟩
def co_H_reachOverFields : List (Nat × Instr) := [(0, .iconst 0), (1, .istore_n 2), (2, .iload_n 2), (3, .aload_n 0), (4, .getfield 30), (7, .if_icmp .ge 75), (10, .iload_n 2), (11, .bipush 16), (13, .if_icmp .ge 69), (16, .aload_n 0), (17, .getfield 27), (20, .iload_n 2), (21, .iaload), (22, .istore_n 3), (23, .aload_n 1), (24, .getfield 48), (27, .aload_n 0), (28, .getfield 9), (31, .iload_n 3), (32, .iaload), (33, .aaload), (34, .astore 4), (36, .iconst 0), (37, .istore 5), (39, .iload 5), (41, .aload 4), (43, .getfield 54), (46, .if_icmp .ge 30), (49, .aload_n 0), (50, .aload_n 0), (51, .getfield 17), (54, .iload_n 3), (55, .aaload), (56, .iload 5), (58, .iaload), (59, .aload 4), (61, .getfield 59), (64, .iload 5), (66, .iaload), (67, .invokevirtual 62), (70, .iinc 5 1), (73, .goto (-34)), (76, .iinc 2 1), (79, .goto (-77)), (82, .return_)]
def fl_H_reachOverFields : List (Nat × Nat × Nat × Nat) := [(30, 5, 5, 0), (27, 5, 4, 2), (48, 2, 0, 2), (9, 5, 0, 2), (54, 0, 3, 0), (17, 5, 1, 2), (59, 0, 1, 2)]
def cb_H_reachOverFields : List (Instr × Nat × Nat × Option Nat × am_F) := [(.invokevirtual 62, 62, 3, (some 5), f_H_reach)]
def m_H_reachOverFields : am_M := am_mk co_H_reachOverFields fl_H_reachOverFields (cb_H_reachOverFields.map (fun z => z.2)) [] [] none 2
def f_H_reachOverFields : am_F := am_mf m_H_reachOverFields 2
theorem o_H_reachOverFields : am_ok m_H_reachOverFields := am_mk_ok (am_cb_ok (List.forall_mem_cons.mpr ⟨n_H_reach, (fun _ h => absurd h List.not_mem_nil)⟩))
theorem n_H_reachOverFields : am_mono f_H_reachOverFields := am_mf_mono o_H_reachOverFields
theorem g_H_reachOverFields : ∀ x q, am_cal m_H_reachOverFields x = some q → am_grow q.2.2 := am_mk_grow (am_cb_gr (List.forall_mem_cons.mpr ⟨h_H_reach, (fun _ h => absurd h List.not_mem_nil)⟩))
theorem h_H_reachOverFields : am_grow f_H_reachOverFields := am_mf_grow g_H_reachOverFields
def y_H_takeAwayTheRest : MethodName := ⟨"PatchedMachine$Heap", "takeAwayTheRest", "()V"⟩
def co_H_takeAwayTheRest : List (Nat × Instr) := [(0, .iconst 0), (1, .istore_n 1), (2, .iload_n 1), (3, .bipush 16), (5, .if_icmp .ge 25), (8, .aload_n 0), (9, .getfield 23), (12, .iload_n 1), (13, .baload), (14, .ifCond .ne 10), (17, .aload_n 0), (18, .getfield 9), (21, .iload_n 1), (22, .iconst 0), (23, .iastore), (24, .iinc 1 1), (27, .goto (-25)), (30, .aload_n 0), (31, .aload_n 0), (32, .getfield 30), (35, .putfield 34), (38, .return_)]
def fl_H_takeAwayTheRest : List (Nat × Nat × Nat × Nat) := [(23, 5, 3, 2), (9, 5, 0, 2), (30, 5, 5, 0), (34, 5, 6, 0)]
def cb_H_takeAwayTheRest : List (Instr × Nat × Nat × Option Nat × am_F) := []
def m_H_takeAwayTheRest : am_M := am_mk co_H_takeAwayTheRest fl_H_takeAwayTheRest (cb_H_takeAwayTheRest.map (fun z => z.2)) [] [] none 2
def f_H_takeAwayTheRest : am_F := am_mf m_H_takeAwayTheRest 1
theorem o_H_takeAwayTheRest : am_ok m_H_takeAwayTheRest := am_mk_ok (am_cb_ok (fun _ h => absurd h List.not_mem_nil))
theorem n_H_takeAwayTheRest : am_mono f_H_takeAwayTheRest := am_mf_mono o_H_takeAwayTheRest
theorem g_H_takeAwayTheRest : ∀ x q, am_cal m_H_takeAwayTheRest x = some q → am_grow q.2.2 := am_mk_grow (am_cb_gr (fun _ h => absurd h List.not_mem_nil))
theorem h_H_takeAwayTheRest : am_grow f_H_takeAwayTheRest := am_mf_grow g_H_takeAwayTheRest
def y_U_collect : MethodName := ⟨"PatchedMachine$Runner", "collect", "(LPatchedMachine$Program;)V"⟩
def co_U_collect : List (Nat × Instr) := [(0, .aload_n 0), (1, .getfield 20), (4, .invokevirtual 163), (7, .iconst 0), (8, .istore_n 2), (9, .iload_n 2), (10, .aload_n 0), (11, .getfield 31), (14, .if_icmp .ge 33), (17, .aload_n 0), (18, .aload_n 0), (19, .getfield 11), (22, .iload_n 2), (23, .aaload), (24, .aload_n 1), (25, .getfield 49), (28, .aload_n 0), (29, .getfield 11), (32, .iload_n 2), (33, .aaload), (34, .getfield 46), (37, .aaload), (38, .invokevirtual 166), (41, .iinc 2 1), (44, .goto (-35)), (47, .aload_n 0), (48, .getfield 20), (51, .aload_n 1), (52, .invokevirtual 169), (55, .aload_n 0), (56, .getfield 20), (59, .invokevirtual 172), (62, .return_)]
def fl_U_collect : List (Nat × Nat × Nat × Nat) := [(20, 8, 1, 2), (31, 8, 3, 0), (11, 8, 0, 2), (49, 2, 1, 2), (46, 7, 4, 0)]
def cb_U_collect : List (Instr × Nat × Nat × Option Nat × am_F) := [(.invokevirtual 163, 163, 1, (some 5), f_H_beginCollection), (.invokevirtual 166, 166, 3, (some 8), f_U_reachFrom), (.invokevirtual 169, 169, 2, (some 5), f_H_reachOverFields), (.invokevirtual 172, 172, 1, (some 5), f_H_takeAwayTheRest)]
def m_U_collect : am_M := am_mk co_U_collect fl_U_collect (cb_U_collect.map (fun z => z.2)) [] [] none 2
def f_U_collect : am_F := am_mf m_U_collect 2
theorem o_U_collect : am_ok m_U_collect := am_mk_ok (am_cb_ok (List.forall_mem_cons.mpr ⟨n_H_beginCollection, (List.forall_mem_cons.mpr ⟨n_U_reachFrom, (List.forall_mem_cons.mpr ⟨n_H_reachOverFields, (List.forall_mem_cons.mpr ⟨n_H_takeAwayTheRest, (fun _ h => absurd h List.not_mem_nil)⟩)⟩)⟩)⟩))
theorem n_U_collect : am_mono f_U_collect := am_mf_mono o_U_collect
theorem g_U_collect : ∀ x q, am_cal m_U_collect x = some q → am_grow q.2.2 := am_mk_grow (am_cb_gr (List.forall_mem_cons.mpr ⟨h_H_beginCollection, (List.forall_mem_cons.mpr ⟨h_U_reachFrom, (List.forall_mem_cons.mpr ⟨h_H_reachOverFields, (List.forall_mem_cons.mpr ⟨h_H_takeAwayTheRest, (fun _ h => absurd h List.not_mem_nil)⟩)⟩)⟩)⟩))
theorem h_U_collect : am_grow f_U_collect := am_mf_grow g_U_collect
def y_H_clearValues : MethodName := ⟨"PatchedMachine$Heap", "clearValues", "([I)V"⟩
def co_H_clearValues : List (Nat × Instr) := [(0, .iconst 0), (1, .istore_n 1), (2, .iload_n 1), (3, .iconst 4), (4, .if_icmp .ge 13), (7, .aload_n 0), (8, .iload_n 1), (9, .iconst 0), (10, .iastore), (11, .iinc 1 1), (14, .goto (-12)), (17, .return_)]
def fl_H_clearValues : List (Nat × Nat × Nat × Nat) := []
def cb_H_clearValues : List (Instr × Nat × Nat × Option Nat × am_F) := []
def m_H_clearValues : am_M := am_mk co_H_clearValues fl_H_clearValues (cb_H_clearValues.map (fun z => z.2)) [] [] none 2
def f_H_clearValues : am_F := am_mf m_H_clearValues 1
theorem o_H_clearValues : am_ok m_H_clearValues := am_mk_ok (am_cb_ok (fun _ h => absurd h List.not_mem_nil))
theorem n_H_clearValues : am_mono f_H_clearValues := am_mf_mono o_H_clearValues
theorem g_H_clearValues : ∀ x q, am_cal m_H_clearValues x = some q → am_grow q.2.2 := am_mk_grow (am_cb_gr (fun _ h => absurd h List.not_mem_nil))
theorem h_H_clearValues : am_grow f_H_clearValues := am_mf_grow g_H_clearValues
def y_H_moveValues : MethodName := ⟨"PatchedMachine$Heap", "moveValues", "([ILPatchedMachine$Layout;LPatchedMachine$Layout;)V"⟩
def co_H_moveValues : List (Nat × Instr) := [(0, .aload_n 0), (1, .getfield 20), (4, .invokestatic 37), (7, .iconst 0), (8, .istore 4), (10, .iload 4), (12, .aload_n 3), (13, .getfield 54), (16, .if_icmp .ge 39), (19, .aload_n 2), (20, .aload_n 3), (21, .getfield 73), (24, .iload 4), (26, .iaload), (27, .invokevirtual 76), (30, .istore 5), (32, .iload 5), (34, .iconst (-1)), (35, .if_icmp .eq 14), (38, .aload_n 0), (39, .getfield 20), (42, .iload 4), (44, .aload_n 1), (45, .iload 5), (47, .iaload), (48, .iastore), (49, .iinc 4 1), (52, .goto (-42)), (55, .aload_n 0), (56, .getfield 20), (59, .iconst 0), (60, .aload_n 1), (61, .iconst 0), (62, .iconst 4), (63, .invokestatic 80), (66, .return_)]
def fl_H_moveValues : List (Nat × Nat × Nat × Nat) := [(20, 5, 2, 2), (54, 0, 3, 0), (73, 0, 2, 2)]
def cb_H_moveValues : List (Instr × Nat × Nat × Option Nat × am_F) := [(.invokestatic 37, 37, 1, none, f_H_clearValues), (.invokevirtual 76, 76, 2, (some 0), f_L_find), (.invokestatic 80, 80, 5, none, am_cpy)]
def m_H_moveValues : am_M := am_mk co_H_moveValues fl_H_moveValues (cb_H_moveValues.map (fun z => z.2)) [] [] none 2
def f_H_moveValues : am_F := am_mf m_H_moveValues 4
theorem o_H_moveValues : am_ok m_H_moveValues := am_mk_ok (am_cb_ok (List.forall_mem_cons.mpr ⟨n_H_clearValues, (List.forall_mem_cons.mpr ⟨n_L_find, (List.forall_mem_cons.mpr ⟨am_cpy_mono, (fun _ h => absurd h List.not_mem_nil)⟩)⟩)⟩))
theorem n_H_moveValues : am_mono f_H_moveValues := am_mf_mono o_H_moveValues
theorem g_H_moveValues : ∀ x q, am_cal m_H_moveValues x = some q → am_grow q.2.2 := am_mk_grow (am_cb_gr (List.forall_mem_cons.mpr ⟨h_H_clearValues, (List.forall_mem_cons.mpr ⟨h_L_find, (List.forall_mem_cons.mpr ⟨am_cpy_grow, (fun _ h => absurd h List.not_mem_nil)⟩)⟩)⟩))
theorem h_H_moveValues : am_grow f_H_moveValues := am_mf_grow g_H_moveValues
def y_H_moveObjects : MethodName := ⟨"PatchedMachine$Heap", "moveObjects", "(LPatchedMachine$Program;LPatchedMachine$Program;)I"⟩
def co_H_moveObjects : List (Nat × Instr) := [(0, .iconst 0), (1, .istore_n 3), (2, .iconst 0), (3, .istore 4), (5, .iload 4), (7, .bipush 16), (9, .if_icmp .ge 55), (12, .aload_n 0), (13, .getfield 9), (16, .iload 4), (18, .iaload), (19, .istore 5), (21, .aload_n 2), (22, .iload 5), (24, .invokevirtual 66), (27, .ifCond .eq 31), (30, .aload_n 0), (31, .aload_n 0), (32, .getfield 17), (35, .iload 4), (37, .aaload), (38, .aload_n 1), (39, .getfield 48), (42, .iload 5), (44, .aaload), (45, .aload_n 2), (46, .getfield 48), (49, .iload 5), (51, .aaload), (52, .invokevirtual 69), (55, .iinc 3 1), (58, .iinc 4 1), (61, .goto (-56)), (64, .iload_n 3), (65, .ireturn)]
def fl_H_moveObjects : List (Nat × Nat × Nat × Nat) := [(9, 5, 0, 2), (17, 5, 1, 2), (48, 2, 0, 2)]
def cb_H_moveObjects : List (Instr × Nat × Nat × Option Nat × am_F) := [(.invokevirtual 66, 66, 2, (some 2), f_P_touchesClass), (.invokevirtual 69, 69, 4, (some 5), f_H_moveValues)]
def m_H_moveObjects : am_M := am_mk co_H_moveObjects fl_H_moveObjects (cb_H_moveObjects.map (fun z => z.2)) [] [] none 0
def f_H_moveObjects : am_F := am_mf m_H_moveObjects 3
theorem o_H_moveObjects : am_ok m_H_moveObjects := am_mk_ok (am_cb_ok (List.forall_mem_cons.mpr ⟨n_P_touchesClass, (List.forall_mem_cons.mpr ⟨n_H_moveValues, (fun _ h => absurd h List.not_mem_nil)⟩)⟩))
theorem n_H_moveObjects : am_mono f_H_moveObjects := am_mf_mono o_H_moveObjects
theorem g_H_moveObjects : ∀ x q, am_cal m_H_moveObjects x = some q → am_grow q.2.2 := am_mk_grow (am_cb_gr (List.forall_mem_cons.mpr ⟨h_P_touchesClass, (List.forall_mem_cons.mpr ⟨h_H_moveValues, (fun _ h => absurd h List.not_mem_nil)⟩)⟩))
theorem h_H_moveObjects : am_grow f_H_moveObjects := am_mf_grow g_H_moveObjects
def y_Q_advance : MethodName := ⟨"PatchedMachine$PatchLine", "advance", "()V"⟩
def co_Q_advance : List (Nat × Instr) := [(0, .aload_n 0), (1, .getfield 21), (4, .ifCond .ne 4), (7, .return_), (8, .aload_n 0), (9, .aload_n 0), (10, .getfield 17), (13, .iconst 1), (14, .iadd), (15, .iconst 4), (16, .irem), (17, .putfield 17), (20, .aload_n 0), (21, .dup), (22, .getfield 21), (25, .iconst 1), (26, .isub), (27, .putfield 21), (30, .return_)]
def fl_Q_advance : List (Nat × Nat × Nat × Nat) := [(21, 3, 2, 0), (17, 3, 1, 0)]
def cb_Q_advance : List (Instr × Nat × Nat × Option Nat × am_F) := []
def m_Q_advance : am_M := am_mk co_Q_advance fl_Q_advance (cb_Q_advance.map (fun z => z.2)) [] [] none 2
def f_Q_advance : am_F := am_mf m_Q_advance 1
theorem o_Q_advance : am_ok m_Q_advance := am_mk_ok (am_cb_ok (fun _ h => absurd h List.not_mem_nil))
theorem n_Q_advance : am_mono f_Q_advance := am_mf_mono o_Q_advance
theorem g_Q_advance : ∀ x q, am_cal m_Q_advance x = some q → am_grow q.2.2 := am_mk_grow (am_cb_gr (fun _ h => absurd h List.not_mem_nil))
theorem h_Q_advance : am_grow f_Q_advance := am_mf_grow g_Q_advance
def y_X_applyWhatCan : MethodName := ⟨"PatchedMachine", "applyWhatCan", "()V"⟩
def co_X_applyWhatCan : List (Nat × Instr) := [(0, .iconst 0), (1, .istore_n 1), (2, .iload_n 1), (3, .iconst 3), (4, .if_icmp .ge 100), (7, .aload_n 0), (8, .getfield 19), (11, .getfield 131), (14, .ifCond .le 90), (17, .aload_n 0), (18, .getfield 33), (21, .aload_n 0), (22, .getfield 19), (25, .invokevirtual 134), (28, .getfield 137), (31, .invokevirtual 209), (34, .ifCond .eq 4), (37, .return_), (38, .aload_n 0), (39, .getfield 19), (42, .invokevirtual 143), (45, .astore_n 2), (46, .aload_n 0), (47, .getfield 33), (50, .aload_n 2), (51, .invokevirtual 212), (54, .aload_n 0), (55, .dup), (56, .getfield 41), (59, .aload_n 0), (60, .getfield 33), (63, .getfield 180), (66, .aload_n 2), (67, .aload_n 0), (68, .getfield 19), (71, .invokevirtual 134), (74, .invokevirtual 215), (77, .iadd), (78, .putfield 41), (81, .aload_n 0), (82, .getfield 19), (85, .invokevirtual 219), (88, .aload_n 0), (89, .dup), (90, .getfield 37), (93, .iconst 1), (94, .iadd), (95, .putfield 37), (98, .iinc 1 1), (101, .goto (-99)), (104, .return_)]
def fl_X_applyWhatCan : List (Nat × Nat × Nat × Nat) := [(19, 9, 1, 2), (131, 3, 2, 0), (33, 9, 3, 2), (137, 2, 4, 0), (41, 9, 5, 0), (180, 8, 1, 2), (37, 9, 4, 0)]
def cb_X_applyWhatCan : List (Instr × Nat × Nat × Option Nat × am_F) := [(.invokevirtual 134, 134, 1, (some 3), f_Q_firstWaiting), (.invokevirtual 209, 209, 2, (some 8), f_U_hasFrameOfOneOf), (.invokevirtual 143, 143, 1, (some 3), f_Q_present), (.invokevirtual 212, 212, 2, (some 8), f_U_collect), (.invokevirtual 215, 215, 3, (some 5), f_H_moveObjects), (.invokevirtual 219, 219, 1, (some 3), f_Q_advance)]
def m_X_applyWhatCan : am_M := am_mk co_X_applyWhatCan fl_X_applyWhatCan (cb_X_applyWhatCan.map (fun z => z.2)) [] [] none 2
def f_X_applyWhatCan : am_F := am_mf m_X_applyWhatCan 1
theorem o_X_applyWhatCan : am_ok m_X_applyWhatCan := am_mk_ok (am_cb_ok (List.forall_mem_cons.mpr ⟨n_Q_firstWaiting, (List.forall_mem_cons.mpr ⟨n_U_hasFrameOfOneOf, (List.forall_mem_cons.mpr ⟨n_Q_present, (List.forall_mem_cons.mpr ⟨n_U_collect, (List.forall_mem_cons.mpr ⟨n_H_moveObjects, (List.forall_mem_cons.mpr ⟨n_Q_advance, (fun _ h => absurd h List.not_mem_nil)⟩)⟩)⟩)⟩)⟩)⟩))
theorem n_X_applyWhatCan : am_mono f_X_applyWhatCan := am_mf_mono o_X_applyWhatCan
theorem g_X_applyWhatCan : ∀ x q, am_cal m_X_applyWhatCan x = some q → am_grow q.2.2 := am_mk_grow (am_cb_gr (List.forall_mem_cons.mpr ⟨h_Q_firstWaiting, (List.forall_mem_cons.mpr ⟨h_U_hasFrameOfOneOf, (List.forall_mem_cons.mpr ⟨h_Q_present, (List.forall_mem_cons.mpr ⟨h_U_collect, (List.forall_mem_cons.mpr ⟨h_H_moveObjects, (List.forall_mem_cons.mpr ⟨h_Q_advance, (fun _ h => absurd h List.not_mem_nil)⟩)⟩)⟩)⟩)⟩)⟩))
theorem h_X_applyWhatCan : am_grow f_X_applyWhatCan := am_mf_grow g_X_applyWhatCan
def y_X_commit : MethodName := ⟨"PatchedMachine", "commit", "()I"⟩
def co_X_commit : List (Nat × Instr) := [(0, .aload_n 0), (1, .getfield 10), (4, .invokevirtual 111), (7, .ifCond .eq 13), (10, .aload_n 0), (11, .getfield 19), (14, .invokevirtual 118), (17, .ifCond .eq 5), (20, .iconst (-1)), (21, .ireturn), (22, .aload_n 0), (23, .getfield 26), (26, .aload_n 0), (27, .getfield 10), (30, .invokevirtual 119), (33, .istore_n 1), (34, .iload_n 1), (35, .iconst (-1)), (36, .if_icmp .eq 7), (39, .iconst 1), (40, .iload_n 1), (41, .iadd), (42, .ireturn), (43, .aload_n 0), (44, .getfield 10), (47, .aload_n 0), (48, .getfield 19), (51, .invokevirtual 75), (54, .invokevirtual 123), (57, .aload_n 0), (58, .getfield 19), (61, .aload_n 0), (62, .getfield 10), (65, .invokevirtual 126), (68, .aload_n 0), (69, .getfield 10), (72, .aload_n 0), (73, .getfield 19), (76, .invokevirtual 75), (79, .invokevirtual 114), (82, .aload_n 0), (83, .invokevirtual 128), (86, .iconst 0), (87, .ireturn)]
def fl_X_commit : List (Nat × Nat × Nat × Nat) := [(10, 9, 0, 2), (19, 9, 1, 2), (26, 9, 2, 2)]
def cb_X_commit : List (Instr × Nat × Nat × Option Nat × am_F) := [(.invokevirtual 111, 111, 1, (some 2), f_P_touchesAnything), (.invokevirtual 118, 118, 1, (some 3), f_Q_isFull), (.invokevirtual 119, 119, 2, (some 4), f_C_firstBadPlace), (.invokevirtual 75, 75, 1, (some 3), f_Q_newest), (.invokevirtual 123, 123, 2, (some 2), f_P_restrict), (.invokevirtual 126, 126, 2, (some 3), f_Q_add), (.invokevirtual 114, 114, 2, (some 2), f_P_beginAs), (.invokevirtual 128, 128, 1, (some 9), f_X_applyWhatCan)]
def m_X_commit : am_M := am_mk co_X_commit fl_X_commit (cb_X_commit.map (fun z => z.2)) [] [] none 0
def f_X_commit : am_F := am_mf m_X_commit 1
theorem o_X_commit : am_ok m_X_commit := am_mk_ok (am_cb_ok (List.forall_mem_cons.mpr ⟨n_P_touchesAnything, (List.forall_mem_cons.mpr ⟨n_Q_isFull, (List.forall_mem_cons.mpr ⟨n_C_firstBadPlace, (List.forall_mem_cons.mpr ⟨n_Q_newest, (List.forall_mem_cons.mpr ⟨n_P_restrict, (List.forall_mem_cons.mpr ⟨n_Q_add, (List.forall_mem_cons.mpr ⟨n_P_beginAs, (List.forall_mem_cons.mpr ⟨n_X_applyWhatCan, (fun _ h => absurd h List.not_mem_nil)⟩)⟩)⟩)⟩)⟩)⟩)⟩)⟩))
theorem n_X_commit : am_mono f_X_commit := am_mf_mono o_X_commit
theorem g_X_commit : ∀ x q, am_cal m_X_commit x = some q → am_grow q.2.2 := am_mk_grow (am_cb_gr (List.forall_mem_cons.mpr ⟨h_P_touchesAnything, (List.forall_mem_cons.mpr ⟨h_Q_isFull, (List.forall_mem_cons.mpr ⟨h_C_firstBadPlace, (List.forall_mem_cons.mpr ⟨h_Q_newest, (List.forall_mem_cons.mpr ⟨h_P_restrict, (List.forall_mem_cons.mpr ⟨h_Q_add, (List.forall_mem_cons.mpr ⟨h_P_beginAs, (List.forall_mem_cons.mpr ⟨h_X_applyWhatCan, (fun _ h => absurd h List.not_mem_nil)⟩)⟩)⟩)⟩)⟩)⟩)⟩)⟩))
theorem h_X_commit : am_grow f_X_commit := am_mf_grow g_X_commit
def y_X_waiting : MethodName := ⟨"PatchedMachine", "waiting", "()I"⟩
def co_X_waiting : List (Nat × Instr) := [(0, .aload_n 0), (1, .getfield 19), (4, .getfield 131), (7, .ireturn)]
def fl_X_waiting : List (Nat × Nat × Nat × Nat) := [(19, 9, 1, 2), (131, 3, 2, 0)]
def cb_X_waiting : List (Instr × Nat × Nat × Option Nat × am_F) := []
def m_X_waiting : am_M := am_mk co_X_waiting fl_X_waiting (cb_X_waiting.map (fun z => z.2)) [] [] none 0
def f_X_waiting : am_F := am_mf m_X_waiting 1
theorem o_X_waiting : am_ok m_X_waiting := am_mk_ok (am_cb_ok (fun _ h => absurd h List.not_mem_nil))
theorem n_X_waiting : am_mono f_X_waiting := am_mf_mono o_X_waiting
theorem g_X_waiting : ∀ x q, am_cal m_X_waiting x = some q → am_grow q.2.2 := am_mk_grow (am_cb_gr (fun _ h => absurd h List.not_mem_nil))
theorem h_X_waiting : am_grow f_X_waiting := am_mf_grow g_X_waiting
def y_X_restricted : MethodName := ⟨"PatchedMachine", "restricted", "()I"⟩
def co_X_restricted : List (Nat × Instr) := [(0, .aload_n 0), (1, .getfield 19), (4, .getfield 131), (7, .ifCond .ne 7), (10, .iconst 0), (11, .goto 13), (14, .aload_n 0), (15, .getfield 19), (18, .invokevirtual 134), (21, .getfield 137), (24, .ireturn)]
def fl_X_restricted : List (Nat × Nat × Nat × Nat) := [(19, 9, 1, 2), (131, 3, 2, 0), (137, 2, 4, 0)]
def cb_X_restricted : List (Instr × Nat × Nat × Option Nat × am_F) := [(.invokevirtual 134, 134, 1, (some 3), f_Q_firstWaiting)]
def m_X_restricted : am_M := am_mk co_X_restricted fl_X_restricted (cb_X_restricted.map (fun z => z.2)) [] [] none 0
def f_X_restricted : am_F := am_mf m_X_restricted 1
theorem o_X_restricted : am_ok m_X_restricted := am_mk_ok (am_cb_ok (List.forall_mem_cons.mpr ⟨n_Q_firstWaiting, (fun _ h => absurd h List.not_mem_nil)⟩))
theorem n_X_restricted : am_mono f_X_restricted := am_mf_mono o_X_restricted
theorem g_X_restricted : ∀ x q, am_cal m_X_restricted x = some q → am_grow q.2.2 := am_mk_grow (am_cb_gr (List.forall_mem_cons.mpr ⟨h_Q_firstWaiting, (fun _ h => absurd h List.not_mem_nil)⟩))
theorem h_X_restricted : am_grow f_X_restricted := am_mf_grow g_X_restricted
def y_X_applied : MethodName := ⟨"PatchedMachine", "applied", "()I"⟩
def co_X_applied : List (Nat × Instr) := [(0, .aload_n 0), (1, .getfield 37), (4, .ireturn)]
def fl_X_applied : List (Nat × Nat × Nat × Nat) := [(37, 9, 4, 0)]
def cb_X_applied : List (Instr × Nat × Nat × Option Nat × am_F) := []
def m_X_applied : am_M := am_mk co_X_applied fl_X_applied (cb_X_applied.map (fun z => z.2)) [] [] none 0
def f_X_applied : am_F := am_mf m_X_applied 1
theorem o_X_applied : am_ok m_X_applied := am_mk_ok (am_cb_ok (fun _ h => absurd h List.not_mem_nil))
theorem n_X_applied : am_mono f_X_applied := am_mf_mono o_X_applied
theorem g_X_applied : ∀ x q, am_cal m_X_applied x = some q → am_grow q.2.2 := am_mk_grow (am_cb_gr (fun _ h => absurd h List.not_mem_nil))
theorem h_X_applied : am_grow f_X_applied := am_mf_grow g_X_applied
def y_X_moved : MethodName := ⟨"PatchedMachine", "moved", "()I"⟩
def co_X_moved : List (Nat × Instr) := [(0, .aload_n 0), (1, .getfield 41), (4, .ireturn)]
def fl_X_moved : List (Nat × Nat × Nat × Nat) := [(41, 9, 5, 0)]
def cb_X_moved : List (Instr × Nat × Nat × Option Nat × am_F) := []
def m_X_moved : am_M := am_mk co_X_moved fl_X_moved (cb_X_moved.map (fun z => z.2)) [] [] none 0
def f_X_moved : am_F := am_mf m_X_moved 1
theorem o_X_moved : am_ok m_X_moved := am_mk_ok (am_cb_ok (fun _ h => absurd h List.not_mem_nil))
theorem n_X_moved : am_mono f_X_moved := am_mf_mono o_X_moved
theorem g_X_moved : ∀ x q, am_cal m_X_moved x = some q → am_grow q.2.2 := am_mk_grow (am_cb_gr (fun _ h => absurd h List.not_mem_nil))
theorem h_X_moved : am_grow f_X_moved := am_mf_grow g_X_moved
def y_U_goesOn : MethodName := ⟨"PatchedMachine$Runner", "goesOn", "()Z"⟩
def co_U_goesOn : List (Nat × Instr) := [(0, .aload_n 0), (1, .getfield 35), (4, .iconst 1), (5, .if_icmp .ne 7), (8, .iconst 1), (9, .goto 4), (12, .iconst 0), (13, .ireturn)]
def fl_U_goesOn : List (Nat × Nat × Nat × Nat) := [(35, 8, 4, 0)]
def cb_U_goesOn : List (Instr × Nat × Nat × Option Nat × am_F) := []
def m_U_goesOn : am_M := am_mk co_U_goesOn fl_U_goesOn (cb_U_goesOn.map (fun z => z.2)) [] [] none 1
def f_U_goesOn : am_F := am_mf m_U_goesOn 1
theorem o_U_goesOn : am_ok m_U_goesOn := am_mk_ok (am_cb_ok (fun _ h => absurd h List.not_mem_nil))
theorem n_U_goesOn : am_mono f_U_goesOn := am_mf_mono o_U_goesOn
theorem g_U_goesOn : ∀ x q, am_cal m_U_goesOn x = some q → am_grow q.2.2 := am_mk_grow (am_cb_gr (fun _ h => absurd h List.not_mem_nil))
theorem h_U_goesOn : am_grow f_U_goesOn := am_mf_grow g_U_goesOn
def y_F_begin : MethodName := ⟨"PatchedMachine$Frame", "begin", "(I)V"⟩
def co_F_begin : List (Nat × Instr) := [(0, .aload_n 0), (1, .iload_n 1), (2, .putfield 25), (5, .aload_n 0), (6, .iconst 0), (7, .putfield 28), (10, .aload_n 0), (11, .iconst 0), (12, .putfield 21), (15, .iconst 0), (16, .istore_n 2), (17, .iload_n 2), (18, .iconst 4), (19, .if_icmp .ge 16), (22, .aload_n 0), (23, .getfield 9), (26, .iload_n 2), (27, .iconst 0), (28, .iastore), (29, .iinc 2 1), (32, .goto (-15)), (35, .return_)]
def fl_F_begin : List (Nat × Nat × Nat × Nat) := [(25, 7, 4, 0), (28, 7, 5, 0), (21, 7, 3, 0), (9, 7, 0, 2)]
def cb_F_begin : List (Instr × Nat × Nat × Option Nat × am_F) := []
def m_F_begin : am_M := am_mk co_F_begin fl_F_begin (cb_F_begin.map (fun z => z.2)) [] [] none 2
def f_F_begin : am_F := am_mf m_F_begin 2
theorem o_F_begin : am_ok m_F_begin := am_mk_ok (am_cb_ok (fun _ h => absurd h List.not_mem_nil))
theorem n_F_begin : am_mono f_F_begin := am_mf_mono o_F_begin
theorem g_F_begin : ∀ x q, am_cal m_F_begin x = some q → am_grow q.2.2 := am_mk_grow (am_cb_gr (fun _ h => absurd h List.not_mem_nil))
theorem h_F_begin : am_grow f_F_begin := am_mf_grow g_F_begin
def y_U_begin : MethodName := ⟨"PatchedMachine$Runner", "begin", "(I)V"⟩
def co_U_begin : List (Nat × Instr) := [(0, .aload_n 0), (1, .iconst 1), (2, .putfield 35), (5, .aload_n 0), (6, .iconst 0), (7, .putfield 38), (10, .aload_n 0), (11, .iconst 1), (12, .putfield 31), (15, .aload_n 0), (16, .getfield 11), (19, .iconst 0), (20, .aaload), (21, .iload_n 1), (22, .invokevirtual 42), (25, .return_)]
def fl_U_begin : List (Nat × Nat × Nat × Nat) := [(35, 8, 4, 0), (38, 8, 5, 0), (31, 8, 3, 0), (11, 8, 0, 2)]
def cb_U_begin : List (Instr × Nat × Nat × Option Nat × am_F) := [(.invokevirtual 42, 42, 2, (some 7), f_F_begin)]
def m_U_begin : am_M := am_mk co_U_begin fl_U_begin (cb_U_begin.map (fun z => z.2)) [] [] none 2
def f_U_begin : am_F := am_mf m_U_begin 2
theorem o_U_begin : am_ok m_U_begin := am_mk_ok (am_cb_ok (List.forall_mem_cons.mpr ⟨n_F_begin, (fun _ h => absurd h List.not_mem_nil)⟩))
theorem n_U_begin : am_mono f_U_begin := am_mf_mono o_U_begin
theorem g_U_begin : ∀ x q, am_cal m_U_begin x = some q → am_grow q.2.2 := am_mk_grow (am_cb_gr (List.forall_mem_cons.mpr ⟨h_F_begin, (fun _ h => absurd h List.not_mem_nil)⟩))
theorem h_U_begin : am_grow f_U_begin := am_mf_grow g_U_begin
def y_X_start : MethodName := ⟨"PatchedMachine", "start", "(I)Z"⟩
def co_X_start : List (Nat × Instr) := [(0, .aload_n 0), (1, .getfield 33), (4, .invokevirtual 140), (7, .ifCond .ne 10), (10, .iload_n 1), (11, .invokestatic 86), (14, .ifCond .ne 5), (17, .iconst 0), (18, .ireturn), (19, .aload_n 0), (20, .getfield 19), (23, .invokevirtual 143), (26, .getfield 96), (29, .iload_n 1), (30, .aaload), (31, .astore_n 2), (32, .aload_n 2), (33, .invokevirtual 146), (36, .ifCond .eq 17), (39, .aload_n 2), (40, .getfield 149), (43, .ifCond .ne 10), (46, .aload_n 2), (47, .getfield 152), (50, .ifCond .eq 5), (53, .iconst 0), (54, .ireturn), (55, .aload_n 0), (56, .getfield 33), (59, .iload_n 1), (60, .invokevirtual 155), (63, .iconst 1), (64, .ireturn)]
def fl_X_start : List (Nat × Nat × Nat × Nat) := [(33, 9, 3, 2), (19, 9, 1, 2), (96, 2, 1, 2), (149, 1, 4, 0), (152, 1, 5, 0)]
def cb_X_start : List (Instr × Nat × Nat × Option Nat × am_F) := [(.invokevirtual 140, 140, 1, (some 8), f_U_goesOn), (.invokestatic 86, 86, 1, none, f_X_isMethod), (.invokevirtual 143, 143, 1, (some 3), f_Q_present), (.invokevirtual 146, 146, 1, (some 1), f_R_isDefined), (.invokevirtual 155, 155, 2, (some 8), f_U_begin)]
def m_X_start : am_M := am_mk co_X_start fl_X_start (cb_X_start.map (fun z => z.2)) [] [] none 1
def f_X_start : am_F := am_mf m_X_start 2
theorem o_X_start : am_ok m_X_start := am_mk_ok (am_cb_ok (List.forall_mem_cons.mpr ⟨n_U_goesOn, (List.forall_mem_cons.mpr ⟨n_X_isMethod, (List.forall_mem_cons.mpr ⟨n_Q_present, (List.forall_mem_cons.mpr ⟨n_R_isDefined, (List.forall_mem_cons.mpr ⟨n_U_begin, (fun _ h => absurd h List.not_mem_nil)⟩)⟩)⟩)⟩)⟩))
theorem n_X_start : am_mono f_X_start := am_mf_mono o_X_start
theorem g_X_start : ∀ x q, am_cal m_X_start x = some q → am_grow q.2.2 := am_mk_grow (am_cb_gr (List.forall_mem_cons.mpr ⟨h_U_goesOn, (List.forall_mem_cons.mpr ⟨h_X_isMethod, (List.forall_mem_cons.mpr ⟨h_Q_present, (List.forall_mem_cons.mpr ⟨h_R_isDefined, (List.forall_mem_cons.mpr ⟨h_U_begin, (fun _ h => absurd h List.not_mem_nil)⟩)⟩)⟩)⟩)⟩))
theorem h_X_start : am_grow f_X_start := am_mf_grow g_X_start
def y_H_isFull : MethodName := ⟨"PatchedMachine$Heap", "isFull", "()Z"⟩
def co_H_isFull : List (Nat × Instr) := [(0, .aload_n 0), (1, .getfield 34), (4, .bipush 16), (6, .if_icmp .lt 7), (9, .iconst 1), (10, .goto 4), (13, .iconst 0), (14, .ireturn)]
def fl_H_isFull : List (Nat × Nat × Nat × Nat) := [(34, 5, 6, 0)]
def cb_H_isFull : List (Instr × Nat × Nat × Option Nat × am_F) := []
def m_H_isFull : am_M := am_mk co_H_isFull fl_H_isFull (cb_H_isFull.map (fun z => z.2)) [] [] none 1
def f_H_isFull : am_F := am_mf m_H_isFull 1
theorem o_H_isFull : am_ok m_H_isFull := am_mk_ok (am_cb_ok (fun _ h => absurd h List.not_mem_nil))
theorem n_H_isFull : am_mono f_H_isFull := am_mf_mono o_H_isFull
theorem g_H_isFull : ∀ x q, am_cal m_H_isFull x = some q → am_grow q.2.2 := am_mk_grow (am_cb_gr (fun _ h => absurd h List.not_mem_nil))
theorem h_H_isFull : am_grow f_H_isFull := am_mf_grow g_H_isFull
def y_U_end : MethodName := ⟨"PatchedMachine$Runner", "end", "(I)V"⟩
def co_U_end : List (Nat × Instr) := [(0, .aload_n 0), (1, .iload_n 1), (2, .putfield 35), (5, .aload_n 0), (6, .iconst 0), (7, .putfield 31), (10, .return_)]
def fl_U_end : List (Nat × Nat × Nat × Nat) := [(35, 8, 4, 0), (31, 8, 3, 0)]
def cb_U_end : List (Instr × Nat × Nat × Option Nat × am_F) := []
def m_U_end : am_M := am_mk co_U_end fl_U_end (cb_U_end.map (fun z => z.2)) [] [] none 2
def f_U_end : am_F := am_mf m_U_end 2
theorem o_U_end : am_ok m_U_end := am_mk_ok (am_cb_ok (fun _ h => absurd h List.not_mem_nil))
theorem n_U_end : am_mono f_U_end := am_mf_mono o_U_end
theorem g_U_end : ∀ x q, am_cal m_U_end x = some q → am_grow q.2.2 := am_mk_grow (am_cb_gr (fun _ h => absurd h List.not_mem_nil))
theorem h_U_end : am_grow f_U_end := am_mf_grow g_U_end
def y_H_make : MethodName := ⟨"PatchedMachine$Heap", "make", "(I)I"⟩
def co_H_make : List (Nat × Instr) := [(0, .iconst 0), (1, .istore_n 2), (2, .iload_n 2), (3, .bipush 16), (5, .if_icmp .ge 48), (8, .aload_n 0), (9, .getfield 9), (12, .iload_n 2), (13, .iaload), (14, .ifCond .ne 33), (17, .aload_n 0), (18, .getfield 9), (21, .iload_n 2), (22, .iload_n 1), (23, .iastore), (24, .aload_n 0), (25, .dup), (26, .getfield 34), (29, .iconst 1), (30, .iadd), (31, .putfield 34), (34, .aload_n 0), (35, .getfield 17), (38, .iload_n 2), (39, .aaload), (40, .invokestatic 37), (43, .iload_n 2), (44, .iconst 1), (45, .iadd), (46, .ireturn), (47, .iinc 2 1), (50, .goto (-48)), (53, .iconst 0), (54, .ireturn)]
def fl_H_make : List (Nat × Nat × Nat × Nat) := [(9, 5, 0, 2), (34, 5, 6, 0), (17, 5, 1, 2)]
def cb_H_make : List (Instr × Nat × Nat × Option Nat × am_F) := [(.invokestatic 37, 37, 1, none, f_H_clearValues)]
def m_H_make : am_M := am_mk co_H_make fl_H_make (cb_H_make.map (fun z => z.2)) [] [] none 0
def f_H_make : am_F := am_mf m_H_make 2
theorem o_H_make : am_ok m_H_make := am_mk_ok (am_cb_ok (List.forall_mem_cons.mpr ⟨n_H_clearValues, (fun _ h => absurd h List.not_mem_nil)⟩))
theorem n_H_make : am_mono f_H_make := am_mf_mono o_H_make
theorem g_H_make : ∀ x q, am_cal m_H_make x = some q → am_grow q.2.2 := am_mk_grow (am_cb_gr (List.forall_mem_cons.mpr ⟨h_H_clearValues, (fun _ h => absurd h List.not_mem_nil)⟩))
theorem h_H_make : am_grow f_H_make := am_mf_grow g_H_make
def y_F_put : MethodName := ⟨"PatchedMachine$Frame", "put", "(II)V"⟩
def co_F_put : List (Nat × Instr) := [(0, .aload_n 0), (1, .getfield 21), (4, .bipush 6), (6, .if_icmp .lt 4), (9, .return_), (10, .aload_n 0), (11, .getfield 15), (14, .aload_n 0), (15, .getfield 21), (18, .iload_n 1), (19, .iastore), (20, .aload_n 0), (21, .getfield 18), (24, .aload_n 0), (25, .getfield 21), (28, .iload_n 2), (29, .iastore), (30, .aload_n 0), (31, .dup), (32, .getfield 21), (35, .iconst 1), (36, .iadd), (37, .putfield 21), (40, .return_)]
def fl_F_put : List (Nat × Nat × Nat × Nat) := [(21, 7, 3, 0), (15, 7, 1, 2), (18, 7, 2, 2)]
def cb_F_put : List (Instr × Nat × Nat × Option Nat × am_F) := []
def m_F_put : am_M := am_mk co_F_put fl_F_put (cb_F_put.map (fun z => z.2)) [] [] none 2
def f_F_put : am_F := am_mf m_F_put 3
theorem o_F_put : am_ok m_F_put := am_mk_ok (am_cb_ok (fun _ h => absurd h List.not_mem_nil))
theorem n_F_put : am_mono f_F_put := am_mf_mono o_F_put
theorem g_F_put : ∀ x q, am_cal m_F_put x = some q → am_grow q.2.2 := am_mk_grow (am_cb_gr (fun _ h => absurd h List.not_mem_nil))
theorem h_F_put : am_grow f_F_put := am_mf_grow g_F_put
def y_U_makeObject : MethodName := ⟨"PatchedMachine$Runner", "makeObject", "(LPatchedMachine$Frame;ILPatchedMachine$Program;)V"⟩
def co_U_makeObject : List (Nat × Instr) := [(0, .aload_n 0), (1, .getfield 20), (4, .invokevirtual 135), (7, .ifCond .eq 8), (10, .aload_n 0), (11, .aload_n 3), (12, .invokevirtual 139), (15, .aload_n 0), (16, .getfield 20), (19, .invokevirtual 135), (22, .ifCond .eq 9), (25, .aload_n 0), (26, .iconst 4), (27, .invokevirtual 113), (30, .return_), (31, .aload_n 1), (32, .aload_n 0), (33, .getfield 20), (36, .iload_n 2), (37, .invokevirtual 143), (40, .iload_n 2), (41, .invokevirtual 86), (44, .return_)]
def fl_U_makeObject : List (Nat × Nat × Nat × Nat) := [(20, 8, 1, 2)]
def cb_U_makeObject : List (Instr × Nat × Nat × Option Nat × am_F) := [(.invokevirtual 135, 135, 1, (some 5), f_H_isFull), (.invokevirtual 139, 139, 2, (some 8), f_U_collect), (.invokevirtual 113, 113, 2, (some 8), f_U_end), (.invokevirtual 143, 143, 2, (some 5), f_H_make), (.invokevirtual 86, 86, 3, (some 7), f_F_put)]
def m_U_makeObject : am_M := am_mk co_U_makeObject fl_U_makeObject (cb_U_makeObject.map (fun z => z.2)) [] [] none 2
def f_U_makeObject : am_F := am_mf m_U_makeObject 4
theorem o_U_makeObject : am_ok m_U_makeObject := am_mk_ok (am_cb_ok (List.forall_mem_cons.mpr ⟨n_H_isFull, (List.forall_mem_cons.mpr ⟨n_U_collect, (List.forall_mem_cons.mpr ⟨n_U_end, (List.forall_mem_cons.mpr ⟨n_H_make, (List.forall_mem_cons.mpr ⟨n_F_put, (fun _ h => absurd h List.not_mem_nil)⟩)⟩)⟩)⟩)⟩))
theorem n_U_makeObject : am_mono f_U_makeObject := am_mf_mono o_U_makeObject
theorem g_U_makeObject : ∀ x q, am_cal m_U_makeObject x = some q → am_grow q.2.2 := am_mk_grow (am_cb_gr (List.forall_mem_cons.mpr ⟨h_H_isFull, (List.forall_mem_cons.mpr ⟨h_U_collect, (List.forall_mem_cons.mpr ⟨h_U_end, (List.forall_mem_cons.mpr ⟨h_H_make, (List.forall_mem_cons.mpr ⟨h_F_put, (fun _ h => absurd h List.not_mem_nil)⟩)⟩)⟩)⟩)⟩))
theorem h_U_makeObject : am_grow f_U_makeObject := am_mf_grow g_U_makeObject
def y_F_take : MethodName := ⟨"PatchedMachine$Frame", "take", "()I"⟩
def co_F_take : List (Nat × Instr) := [(0, .aload_n 0), (1, .getfield 21), (4, .ifCond .ne 5), (7, .iconst 0), (8, .ireturn), (9, .aload_n 0), (10, .dup), (11, .getfield 21), (14, .iconst 1), (15, .isub), (16, .putfield 21), (19, .aload_n 0), (20, .getfield 15), (23, .aload_n 0), (24, .getfield 21), (27, .iaload), (28, .ireturn)]
def fl_F_take : List (Nat × Nat × Nat × Nat) := [(21, 7, 3, 0), (15, 7, 1, 2)]
def cb_F_take : List (Instr × Nat × Nat × Option Nat × am_F) := []
def m_F_take : am_M := am_mk co_F_take fl_F_take (cb_F_take.map (fun z => z.2)) [] [] none 0
def f_F_take : am_F := am_mf m_F_take 1
theorem o_F_take : am_ok m_F_take := am_mk_ok (am_cb_ok (fun _ h => absurd h List.not_mem_nil))
theorem n_F_take : am_mono f_F_take := am_mf_mono o_F_take
theorem g_F_take : ∀ x q, am_cal m_F_take x = some q → am_grow q.2.2 := am_mk_grow (am_cb_gr (fun _ h => absurd h List.not_mem_nil))
theorem h_F_take : am_grow f_F_take := am_mf_grow g_F_take
def y_H_isObject : MethodName := ⟨"PatchedMachine$Heap", "isObject", "(I)Z"⟩
def co_H_isObject : List (Nat × Instr) := [(0, .iload_n 1), (1, .iconst 1), (2, .if_icmp .lt 13), (5, .iload_n 1), (6, .bipush 16), (8, .if_icmp .gt 7), (11, .iconst 1), (12, .goto 4), (15, .iconst 0), (16, .ireturn)]
def fl_H_isObject : List (Nat × Nat × Nat × Nat) := []
def cb_H_isObject : List (Instr × Nat × Nat × Option Nat × am_F) := []
def m_H_isObject : am_M := am_mk co_H_isObject fl_H_isObject (cb_H_isObject.map (fun z => z.2)) [] [] none 1
def f_H_isObject : am_F := am_mf m_H_isObject 2
theorem o_H_isObject : am_ok m_H_isObject := am_mk_ok (am_cb_ok (fun _ h => absurd h List.not_mem_nil))
theorem n_H_isObject : am_mono f_H_isObject := am_mf_mono o_H_isObject
theorem g_H_isObject : ∀ x q, am_cal m_H_isObject x = some q → am_grow q.2.2 := am_mk_grow (am_cb_gr (fun _ h => absurd h List.not_mem_nil))
theorem h_H_isObject : am_grow f_H_isObject := am_mf_grow g_H_isObject
def y_H_isField : MethodName := ⟨"PatchedMachine$Heap", "isField", "(I)Z"⟩
def co_H_isField : List (Nat × Instr) := [(0, .iload_n 0), (1, .ifCond .lt 12), (4, .iload_n 0), (5, .iconst 4), (6, .if_icmp .ge 7), (9, .iconst 1), (10, .goto 4), (13, .iconst 0), (14, .ireturn)]
def fl_H_isField : List (Nat × Nat × Nat × Nat) := []
def cb_H_isField : List (Instr × Nat × Nat × Option Nat × am_F) := []
def m_H_isField : am_M := am_mk co_H_isField fl_H_isField (cb_H_isField.map (fun z => z.2)) [] [] none 1
def f_H_isField : am_F := am_mf m_H_isField 1
theorem o_H_isField : am_ok m_H_isField := am_mk_ok (am_cb_ok (fun _ h => absurd h List.not_mem_nil))
theorem n_H_isField : am_mono f_H_isField := am_mf_mono o_H_isField
theorem g_H_isField : ∀ x q, am_cal m_H_isField x = some q → am_grow q.2.2 := am_mk_grow (am_cb_gr (fun _ h => absurd h List.not_mem_nil))
theorem h_H_isField : am_grow f_H_isField := am_mf_grow g_H_isField
def y_H_valueAt : MethodName := ⟨"PatchedMachine$Heap", "valueAt", "(II)I"⟩
def co_H_valueAt : List (Nat × Instr) := [(0, .aload_n 0), (1, .iload_n 1), (2, .invokevirtual 41), (5, .ifCond .eq 23), (8, .iload_n 2), (9, .invokestatic 45), (12, .ifCond .eq 16), (15, .aload_n 0), (16, .getfield 17), (19, .iload_n 1), (20, .iconst 1), (21, .isub), (22, .aaload), (23, .iload_n 2), (24, .iaload), (25, .goto 4), (28, .iconst 0), (29, .ireturn)]
def fl_H_valueAt : List (Nat × Nat × Nat × Nat) := [(17, 5, 1, 2)]
def cb_H_valueAt : List (Instr × Nat × Nat × Option Nat × am_F) := [(.invokevirtual 41, 41, 2, (some 5), f_H_isObject), (.invokestatic 45, 45, 1, none, f_H_isField)]
def m_H_valueAt : am_M := am_mk co_H_valueAt fl_H_valueAt (cb_H_valueAt.map (fun z => z.2)) [] [] none 0
def f_H_valueAt : am_F := am_mf m_H_valueAt 3
theorem o_H_valueAt : am_ok m_H_valueAt := am_mk_ok (am_cb_ok (List.forall_mem_cons.mpr ⟨n_H_isObject, (List.forall_mem_cons.mpr ⟨n_H_isField, (fun _ h => absurd h List.not_mem_nil)⟩)⟩))
theorem n_H_valueAt : am_mono f_H_valueAt := am_mf_mono o_H_valueAt
theorem g_H_valueAt : ∀ x q, am_cal m_H_valueAt x = some q → am_grow q.2.2 := am_mk_grow (am_cb_gr (List.forall_mem_cons.mpr ⟨h_H_isObject, (List.forall_mem_cons.mpr ⟨h_H_isField, (fun _ h => absurd h List.not_mem_nil)⟩)⟩))
theorem h_H_valueAt : am_grow f_H_valueAt := am_mf_grow g_H_valueAt
def y_U_readField : MethodName := ⟨"PatchedMachine$Runner", "readField", "(LPatchedMachine$Frame;LPatchedMachine$Layout;I)V"⟩
def co_U_readField : List (Nat × Instr) := [(0, .aload_n 1), (1, .invokevirtual 94), (4, .istore 4), (6, .iload 4), (8, .ifCond .ne 9), (11, .aload_n 0), (12, .iconst 3), (13, .invokevirtual 113), (16, .return_), (17, .aload_n 1), (18, .aload_n 0), (19, .getfield 20), (22, .iload 4), (24, .aload_n 2), (25, .iload_n 3), (26, .invokevirtual 147), (29, .invokevirtual 152), (32, .aload_n 2), (33, .iload_n 3), (34, .invokevirtual 156), (37, .invokevirtual 86), (40, .return_)]
def fl_U_readField : List (Nat × Nat × Nat × Nat) := [(20, 8, 1, 2)]
def cb_U_readField : List (Instr × Nat × Nat × Option Nat × am_F) := [(.invokevirtual 94, 94, 1, (some 7), f_F_take), (.invokevirtual 113, 113, 2, (some 8), f_U_end), (.invokevirtual 147, 147, 2, (some 0), f_L_find), (.invokevirtual 152, 152, 3, (some 5), f_H_valueAt), (.invokevirtual 156, 156, 2, (some 0), f_L_typeNamed), (.invokevirtual 86, 86, 3, (some 7), f_F_put)]
def m_U_readField : am_M := am_mk co_U_readField fl_U_readField (cb_U_readField.map (fun z => z.2)) [] [] none 2
def f_U_readField : am_F := am_mf m_U_readField 4
theorem o_U_readField : am_ok m_U_readField := am_mk_ok (am_cb_ok (List.forall_mem_cons.mpr ⟨n_F_take, (List.forall_mem_cons.mpr ⟨n_U_end, (List.forall_mem_cons.mpr ⟨n_L_find, (List.forall_mem_cons.mpr ⟨n_H_valueAt, (List.forall_mem_cons.mpr ⟨n_L_typeNamed, (List.forall_mem_cons.mpr ⟨n_F_put, (fun _ h => absurd h List.not_mem_nil)⟩)⟩)⟩)⟩)⟩)⟩))
theorem n_U_readField : am_mono f_U_readField := am_mf_mono o_U_readField
theorem g_U_readField : ∀ x q, am_cal m_U_readField x = some q → am_grow q.2.2 := am_mk_grow (am_cb_gr (List.forall_mem_cons.mpr ⟨h_F_take, (List.forall_mem_cons.mpr ⟨h_U_end, (List.forall_mem_cons.mpr ⟨h_L_find, (List.forall_mem_cons.mpr ⟨h_H_valueAt, (List.forall_mem_cons.mpr ⟨h_L_typeNamed, (List.forall_mem_cons.mpr ⟨h_F_put, (fun _ h => absurd h List.not_mem_nil)⟩)⟩)⟩)⟩)⟩)⟩))
theorem h_U_readField : am_grow f_U_readField := am_mf_grow g_U_readField
def y_H_setValue : MethodName := ⟨"PatchedMachine$Heap", "setValue", "(III)V"⟩
def co_H_setValue : List (Nat × Instr) := [(0, .aload_n 0), (1, .iload_n 1), (2, .invokevirtual 41), (5, .ifCond .eq 21), (8, .iload_n 2), (9, .invokestatic 45), (12, .ifCond .eq 14), (15, .aload_n 0), (16, .getfield 17), (19, .iload_n 1), (20, .iconst 1), (21, .isub), (22, .aaload), (23, .iload_n 2), (24, .iload_n 3), (25, .iastore), (26, .return_)]
def fl_H_setValue : List (Nat × Nat × Nat × Nat) := [(17, 5, 1, 2)]
def cb_H_setValue : List (Instr × Nat × Nat × Option Nat × am_F) := [(.invokevirtual 41, 41, 2, (some 5), f_H_isObject), (.invokestatic 45, 45, 1, none, f_H_isField)]
def m_H_setValue : am_M := am_mk co_H_setValue fl_H_setValue (cb_H_setValue.map (fun z => z.2)) [] [] none 2
def f_H_setValue : am_F := am_mf m_H_setValue 4
theorem o_H_setValue : am_ok m_H_setValue := am_mk_ok (am_cb_ok (List.forall_mem_cons.mpr ⟨n_H_isObject, (List.forall_mem_cons.mpr ⟨n_H_isField, (fun _ h => absurd h List.not_mem_nil)⟩)⟩))
theorem n_H_setValue : am_mono f_H_setValue := am_mf_mono o_H_setValue
theorem g_H_setValue : ∀ x q, am_cal m_H_setValue x = some q → am_grow q.2.2 := am_mk_grow (am_cb_gr (List.forall_mem_cons.mpr ⟨h_H_isObject, (List.forall_mem_cons.mpr ⟨h_H_isField, (fun _ h => absurd h List.not_mem_nil)⟩)⟩))
theorem h_H_setValue : am_grow f_H_setValue := am_mf_grow g_H_setValue
def y_U_writeField : MethodName := ⟨"PatchedMachine$Runner", "writeField", "(LPatchedMachine$Frame;LPatchedMachine$Layout;I)V"⟩
def co_U_writeField : List (Nat × Instr) := [(0, .aload_n 1), (1, .invokevirtual 94), (4, .istore 4), (6, .aload_n 1), (7, .invokevirtual 94), (10, .istore 5), (12, .iload 5), (14, .ifCond .ne 9), (17, .aload_n 0), (18, .iconst 3), (19, .invokevirtual 113), (22, .return_), (23, .aload_n 0), (24, .getfield 20), (27, .iload 5), (29, .aload_n 2), (30, .iload_n 3), (31, .invokevirtual 147), (34, .iload 4), (36, .invokevirtual 159), (39, .return_)]
def fl_U_writeField : List (Nat × Nat × Nat × Nat) := [(20, 8, 1, 2)]
def cb_U_writeField : List (Instr × Nat × Nat × Option Nat × am_F) := [(.invokevirtual 94, 94, 1, (some 7), f_F_take), (.invokevirtual 113, 113, 2, (some 8), f_U_end), (.invokevirtual 147, 147, 2, (some 0), f_L_find), (.invokevirtual 159, 159, 4, (some 5), f_H_setValue)]
def m_U_writeField : am_M := am_mk co_U_writeField fl_U_writeField (cb_U_writeField.map (fun z => z.2)) [] [] none 2
def f_U_writeField : am_F := am_mf m_U_writeField 4
theorem o_U_writeField : am_ok m_U_writeField := am_mk_ok (am_cb_ok (List.forall_mem_cons.mpr ⟨n_F_take, (List.forall_mem_cons.mpr ⟨n_U_end, (List.forall_mem_cons.mpr ⟨n_L_find, (List.forall_mem_cons.mpr ⟨n_H_setValue, (fun _ h => absurd h List.not_mem_nil)⟩)⟩)⟩)⟩))
theorem n_U_writeField : am_mono f_U_writeField := am_mf_mono o_U_writeField
theorem g_U_writeField : ∀ x q, am_cal m_U_writeField x = some q → am_grow q.2.2 := am_mk_grow (am_cb_gr (List.forall_mem_cons.mpr ⟨h_F_take, (List.forall_mem_cons.mpr ⟨h_U_end, (List.forall_mem_cons.mpr ⟨h_L_find, (List.forall_mem_cons.mpr ⟨h_H_setValue, (fun _ h => absurd h List.not_mem_nil)⟩)⟩)⟩)⟩))
theorem h_U_writeField : am_grow f_U_writeField := am_mf_grow g_U_writeField
def y_U_stepOnObjects : MethodName := ⟨"PatchedMachine$Runner", "stepOnObjects", "(LPatchedMachine$Frame;IIILPatchedMachine$Program;)V"⟩
def co_U_stepOnObjects : List (Nat × Instr) := [(0, .iload_n 2), (1, .tableswitch 72 10 12 #[27, 38, 55]), (28, .aload_n 0), (29, .aload_n 1), (30, .iload_n 3), (31, .aload 5), (33, .invokevirtual 120), (36, .goto 58), (39, .aload_n 0), (40, .aload_n 1), (41, .aload 5), (43, .getfield 124), (46, .iload_n 3), (47, .aaload), (48, .iload 4), (50, .invokevirtual 128), (53, .goto 41), (56, .aload_n 0), (57, .aload_n 1), (58, .aload 5), (60, .getfield 124), (63, .iload_n 3), (64, .aaload), (65, .iload 4), (67, .invokevirtual 132), (70, .goto 24), (73, .aload_n 1), (74, .aload_n 1), (75, .invokevirtual 94), (78, .aload_n 1), (79, .invokevirtual 94), (82, .if_icmp .ne 7), (85, .iconst 1), (86, .goto 4), (89, .iconst 0), (90, .iconst 0), (91, .invokevirtual 86), (94, .return_)]
def fl_U_stepOnObjects : List (Nat × Nat × Nat × Nat) := [(124, 2, 0, 2)]
def cb_U_stepOnObjects : List (Instr × Nat × Nat × Option Nat × am_F) := [(.invokevirtual 120, 120, 4, (some 8), f_U_makeObject), (.invokevirtual 128, 128, 4, (some 8), f_U_readField), (.invokevirtual 132, 132, 4, (some 8), f_U_writeField), (.invokevirtual 94, 94, 1, (some 7), f_F_take), (.invokevirtual 86, 86, 3, (some 7), f_F_put)]
def m_U_stepOnObjects : am_M := am_mk co_U_stepOnObjects fl_U_stepOnObjects (cb_U_stepOnObjects.map (fun z => z.2)) [] [] none 2
def f_U_stepOnObjects : am_F := am_mf m_U_stepOnObjects 6
theorem o_U_stepOnObjects : am_ok m_U_stepOnObjects := am_mk_ok (am_cb_ok (List.forall_mem_cons.mpr ⟨n_U_makeObject, (List.forall_mem_cons.mpr ⟨n_U_readField, (List.forall_mem_cons.mpr ⟨n_U_writeField, (List.forall_mem_cons.mpr ⟨n_F_take, (List.forall_mem_cons.mpr ⟨n_F_put, (fun _ h => absurd h List.not_mem_nil)⟩)⟩)⟩)⟩)⟩))
theorem n_U_stepOnObjects : am_mono f_U_stepOnObjects := am_mf_mono o_U_stepOnObjects
theorem g_U_stepOnObjects : ∀ x q, am_cal m_U_stepOnObjects x = some q → am_grow q.2.2 := am_mk_grow (am_cb_gr (List.forall_mem_cons.mpr ⟨h_U_makeObject, (List.forall_mem_cons.mpr ⟨h_U_readField, (List.forall_mem_cons.mpr ⟨h_U_writeField, (List.forall_mem_cons.mpr ⟨h_F_take, (List.forall_mem_cons.mpr ⟨h_F_put, (fun _ h => absurd h List.not_mem_nil)⟩)⟩)⟩)⟩)⟩))
theorem h_U_stepOnObjects : am_grow f_U_stepOnObjects := am_mf_grow g_U_stepOnObjects
def y_U_enter : MethodName := ⟨"PatchedMachine$Runner", "enter", "(LPatchedMachine$Frame;ILPatchedMachine$Routine;)V"⟩
def co_U_enter : List (Nat × Instr) := [(0, .aload_n 0), (1, .getfield 31), (4, .bipush 8), (6, .if_icmp .lt 9), (9, .aload_n 0), (10, .iconst 5), (11, .invokevirtual 113), (14, .return_), (15, .aload_n 0), (16, .getfield 11), (19, .aload_n 0), (20, .getfield 31), (23, .aaload), (24, .astore 4), (26, .aload 4), (28, .iload_n 2), (29, .invokevirtual 42), (32, .aload_n 3), (33, .getfield 116), (36, .iconst 1), (37, .isub), (38, .istore 5), (40, .iload 5), (42, .ifCond .lt 21), (45, .aload 4), (47, .getfield 90), (50, .iload 5), (52, .aload_n 1), (53, .invokevirtual 94), (56, .iastore), (57, .iinc 5 (-1)), (60, .goto (-20)), (63, .aload_n 0), (64, .dup), (65, .getfield 31), (68, .iconst 1), (69, .iadd), (70, .putfield 31), (73, .return_)]
def fl_U_enter : List (Nat × Nat × Nat × Nat) := [(31, 8, 3, 0), (11, 8, 0, 2), (116, 1, 4, 0), (90, 7, 0, 2)]
def cb_U_enter : List (Instr × Nat × Nat × Option Nat × am_F) := [(.invokevirtual 113, 113, 2, (some 8), f_U_end), (.invokevirtual 42, 42, 2, (some 7), f_F_begin), (.invokevirtual 94, 94, 1, (some 7), f_F_take)]
def m_U_enter : am_M := am_mk co_U_enter fl_U_enter (cb_U_enter.map (fun z => z.2)) [] [] none 2
def f_U_enter : am_F := am_mf m_U_enter 4
theorem o_U_enter : am_ok m_U_enter := am_mk_ok (am_cb_ok (List.forall_mem_cons.mpr ⟨n_U_end, (List.forall_mem_cons.mpr ⟨n_F_begin, (List.forall_mem_cons.mpr ⟨n_F_take, (fun _ h => absurd h List.not_mem_nil)⟩)⟩)⟩))
theorem n_U_enter : am_mono f_U_enter := am_mf_mono o_U_enter
theorem g_U_enter : ∀ x q, am_cal m_U_enter x = some q → am_grow q.2.2 := am_mk_grow (am_cb_gr (List.forall_mem_cons.mpr ⟨h_U_end, (List.forall_mem_cons.mpr ⟨h_F_begin, (List.forall_mem_cons.mpr ⟨h_F_take, (fun _ h => absurd h List.not_mem_nil)⟩)⟩)⟩))
theorem h_U_enter : am_grow f_U_enter := am_mf_grow g_U_enter
def y_U_leave : MethodName := ⟨"PatchedMachine$Runner", "leave", "(LPatchedMachine$Frame;LPatchedMachine$Routine;)V"⟩
def co_U_leave : List (Nat × Instr) := [(0, .aload_n 1), (1, .invokevirtual 94), (4, .istore_n 3), (5, .aload_n 0), (6, .getfield 31), (9, .iconst 1), (10, .if_icmp .gt 14), (13, .aload_n 0), (14, .iconst 2), (15, .invokevirtual 113), (18, .aload_n 0), (19, .iload_n 3), (20, .putfield 38), (23, .return_), (24, .aload_n 0), (25, .dup), (26, .getfield 31), (29, .iconst 1), (30, .isub), (31, .putfield 31), (34, .aload_n 0), (35, .getfield 11), (38, .aload_n 0), (39, .getfield 31), (42, .iconst 1), (43, .isub), (44, .aaload), (45, .iload_n 3), (46, .aload_n 2), (47, .getfield 119), (50, .invokevirtual 86), (53, .return_)]
def fl_U_leave : List (Nat × Nat × Nat × Nat) := [(31, 8, 3, 0), (38, 8, 5, 0), (11, 8, 0, 2), (119, 1, 5, 0)]
def cb_U_leave : List (Instr × Nat × Nat × Option Nat × am_F) := [(.invokevirtual 94, 94, 1, (some 7), f_F_take), (.invokevirtual 113, 113, 2, (some 8), f_U_end), (.invokevirtual 86, 86, 3, (some 7), f_F_put)]
def m_U_leave : am_M := am_mk co_U_leave fl_U_leave (cb_U_leave.map (fun z => z.2)) [] [] none 2
def f_U_leave : am_F := am_mf m_U_leave 3
theorem o_U_leave : am_ok m_U_leave := am_mk_ok (am_cb_ok (List.forall_mem_cons.mpr ⟨n_F_take, (List.forall_mem_cons.mpr ⟨n_U_end, (List.forall_mem_cons.mpr ⟨n_F_put, (fun _ h => absurd h List.not_mem_nil)⟩)⟩)⟩))
theorem n_U_leave : am_mono f_U_leave := am_mf_mono o_U_leave
theorem g_U_leave : ∀ x q, am_cal m_U_leave x = some q → am_grow q.2.2 := am_mk_grow (am_cb_gr (List.forall_mem_cons.mpr ⟨h_F_take, (List.forall_mem_cons.mpr ⟨h_U_end, (List.forall_mem_cons.mpr ⟨h_F_put, (fun _ h => absurd h List.not_mem_nil)⟩)⟩)⟩))
theorem h_U_leave : am_grow f_U_leave := am_mf_grow g_U_leave
def y_U_stepElsewhere : MethodName := ⟨"PatchedMachine$Runner", "stepElsewhere", "(LPatchedMachine$Frame;IILPatchedMachine$Program;)V"⟩
def co_U_stepElsewhere : List (Nat × Instr) := [(0, .iload_n 2), (1, .lookupswitch 74 #[(8, 35), (9, 43), (13, 58)]), (36, .aload_n 1), (37, .iload_n 3), (38, .putfield 55), (41, .goto 49), (44, .aload_n 1), (45, .invokevirtual 94), (48, .ifCond .ne 42), (51, .aload_n 1), (52, .iload_n 3), (53, .putfield 55), (56, .goto 34), (59, .aload_n 0), (60, .aload_n 1), (61, .iload_n 3), (62, .aload 4), (64, .getfield 49), (67, .iload_n 3), (68, .aaload), (69, .invokevirtual 105), (72, .goto 18), (75, .aload_n 0), (76, .aload_n 1), (77, .aload 4), (79, .getfield 49), (82, .aload_n 1), (83, .getfield 46), (86, .aaload), (87, .invokevirtual 109), (90, .return_)]
def fl_U_stepElsewhere : List (Nat × Nat × Nat × Nat) := [(55, 7, 5, 0), (49, 2, 1, 2), (46, 7, 4, 0)]
def cb_U_stepElsewhere : List (Instr × Nat × Nat × Option Nat × am_F) := [(.invokevirtual 94, 94, 1, (some 7), f_F_take), (.invokevirtual 105, 105, 4, (some 8), f_U_enter), (.invokevirtual 109, 109, 3, (some 8), f_U_leave)]
def m_U_stepElsewhere : am_M := am_mk co_U_stepElsewhere fl_U_stepElsewhere (cb_U_stepElsewhere.map (fun z => z.2)) [] [] none 2
def f_U_stepElsewhere : am_F := am_mf m_U_stepElsewhere 5
theorem o_U_stepElsewhere : am_ok m_U_stepElsewhere := am_mk_ok (am_cb_ok (List.forall_mem_cons.mpr ⟨n_F_take, (List.forall_mem_cons.mpr ⟨n_U_enter, (List.forall_mem_cons.mpr ⟨n_U_leave, (fun _ h => absurd h List.not_mem_nil)⟩)⟩)⟩))
theorem n_U_stepElsewhere : am_mono f_U_stepElsewhere := am_mf_mono o_U_stepElsewhere
theorem g_U_stepElsewhere : ∀ x q, am_cal m_U_stepElsewhere x = some q → am_grow q.2.2 := am_mk_grow (am_cb_gr (List.forall_mem_cons.mpr ⟨h_F_take, (List.forall_mem_cons.mpr ⟨h_U_enter, (List.forall_mem_cons.mpr ⟨h_U_leave, (fun _ h => absurd h List.not_mem_nil)⟩)⟩)⟩))
theorem h_U_stepElsewhere : am_grow f_U_stepElsewhere := am_mf_grow g_U_stepElsewhere
def y_J_floorMod : MethodName := ⟨"java/lang/Math", "floorMod", "(II)I"⟩
def co_J_floorMod : List (Nat × Instr) := [(0, .iload_n 0), (1, .iload_n 1), (2, .irem), (3, .istore_n 2), (4, .iload_n 0), (5, .iload_n 1), (6, .ixor), (7, .ifCond .ge 11), (10, .iload_n 2), (11, .ifCond .eq 7), (14, .iload_n 2), (15, .iload_n 1), (16, .iadd), (17, .ireturn), (18, .iload_n 2), (19, .ireturn)]
def fl_J_floorMod : List (Nat × Nat × Nat × Nat) := []
def cb_J_floorMod : List (Instr × Nat × Nat × Option Nat × am_F) := []
def m_J_floorMod : am_M := am_mk co_J_floorMod fl_J_floorMod (cb_J_floorMod.map (fun z => z.2)) [] [] none 0
def f_J_floorMod : am_F := am_mf m_J_floorMod 2
theorem o_J_floorMod : am_ok m_J_floorMod := am_mk_ok (am_cb_ok (fun _ h => absurd h List.not_mem_nil))
theorem n_J_floorMod : am_mono f_J_floorMod := am_mf_mono o_J_floorMod
theorem g_J_floorMod : ∀ x q, am_cal m_J_floorMod x = some q → am_grow q.2.2 := am_mk_grow (am_cb_gr (fun _ h => absurd h List.not_mem_nil))
theorem h_J_floorMod : am_grow f_J_floorMod := am_mf_grow g_J_floorMod
def y_O_print : MethodName := ⟨"PatchedMachine$Printer", "print", "(I)V"⟩
def co_O_print : List (Nat × Instr) := [(0, .aload_n 0), (1, .getfield 9), (4, .aload_n 0), (5, .getfield 15), (8, .bipush 16), (10, .invokestatic 19), (13, .iload_n 1), (14, .iastore), (15, .aload_n 0), (16, .dup), (17, .getfield 15), (20, .iconst 1), (21, .iadd), (22, .putfield 15), (25, .return_)]
def fl_O_print : List (Nat × Nat × Nat × Nat) := [(9, 6, 0, 2), (15, 6, 1, 0)]
def cb_O_print : List (Instr × Nat × Nat × Option Nat × am_F) := [(.invokestatic 19, 19, 2, none, f_J_floorMod)]
def m_O_print : am_M := am_mk co_O_print fl_O_print (cb_O_print.map (fun z => z.2)) [] [] none 2
def f_O_print : am_F := am_mf m_O_print 2
theorem o_O_print : am_ok m_O_print := am_mk_ok (am_cb_ok (List.forall_mem_cons.mpr ⟨n_J_floorMod, (fun _ h => absurd h List.not_mem_nil)⟩))
theorem n_O_print : am_mono f_O_print := am_mf_mono o_O_print
theorem g_O_print : ∀ x q, am_cal m_O_print x = some q → am_grow q.2.2 := am_mk_grow (am_cb_gr (List.forall_mem_cons.mpr ⟨h_J_floorMod, (fun _ h => absurd h List.not_mem_nil)⟩))
theorem h_O_print : am_grow f_O_print := am_mf_grow g_O_print
def y_U_calculate : MethodName := ⟨"PatchedMachine$Runner", "calculate", "(LPatchedMachine$Frame;I)V"⟩
def co_U_calculate : List (Nat × Instr) := [(0, .aload_n 0), (1, .invokevirtual 94), (4, .istore_n 2), (5, .aload_n 0), (6, .invokevirtual 94), (9, .istore_n 3), (10, .iload_n 1), (11, .tableswitch 58 4 6 #[25, 36, 47]), (36, .aload_n 0), (37, .iload_n 3), (38, .iload_n 2), (39, .iadd), (40, .iconst 0), (41, .invokevirtual 86), (44, .goto 40), (47, .aload_n 0), (48, .iload_n 3), (49, .iload_n 2), (50, .isub), (51, .iconst 0), (52, .invokevirtual 86), (55, .goto 29), (58, .aload_n 0), (59, .iload_n 3), (60, .iload_n 2), (61, .imul), (62, .iconst 0), (63, .invokevirtual 86), (66, .goto 18), (69, .aload_n 0), (70, .iload_n 3), (71, .iload_n 2), (72, .if_icmp .ge 7), (75, .iconst 1), (76, .goto 4), (79, .iconst 0), (80, .iconst 0), (81, .invokevirtual 86), (84, .return_)]
def fl_U_calculate : List (Nat × Nat × Nat × Nat) := []
def cb_U_calculate : List (Instr × Nat × Nat × Option Nat × am_F) := [(.invokevirtual 94, 94, 1, (some 7), f_F_take), (.invokevirtual 86, 86, 3, (some 7), f_F_put)]
def m_U_calculate : am_M := am_mk co_U_calculate fl_U_calculate (cb_U_calculate.map (fun z => z.2)) [] [] none 2
def f_U_calculate : am_F := am_mf m_U_calculate 2
theorem o_U_calculate : am_ok m_U_calculate := am_mk_ok (am_cb_ok (List.forall_mem_cons.mpr ⟨n_F_take, (List.forall_mem_cons.mpr ⟨n_F_put, (fun _ h => absurd h List.not_mem_nil)⟩)⟩))
theorem n_U_calculate : am_mono f_U_calculate := am_mf_mono o_U_calculate
theorem g_U_calculate : ∀ x q, am_cal m_U_calculate x = some q → am_grow q.2.2 := am_mk_grow (am_cb_gr (List.forall_mem_cons.mpr ⟨h_F_take, (List.forall_mem_cons.mpr ⟨h_F_put, (fun _ h => absurd h List.not_mem_nil)⟩)⟩))
theorem h_U_calculate : am_grow f_U_calculate := am_mf_grow g_U_calculate
def y_U_stepOnValues : MethodName := ⟨"PatchedMachine$Runner", "stepOnValues", "(LPatchedMachine$Frame;IILPatchedMachine$Routine;)V"⟩
def co_U_stepOnValues : List (Nat × Instr) := [(0, .iload_n 2), (1, .lookupswitch 116 #[(0, 51), (1, 60), (2, 69), (3, 89), (16, 102)]), (52, .aload_n 1), (53, .iload_n 3), (54, .iconst 0), (55, .invokevirtual 86), (58, .goto 64), (61, .aload_n 1), (62, .iconst 0), (63, .iload_n 3), (64, .invokevirtual 86), (67, .goto 55), (70, .aload_n 1), (71, .aload_n 1), (72, .getfield 90), (75, .iload_n 3), (76, .iaload), (77, .aload 4), (79, .getfield 93), (82, .iload_n 3), (83, .iaload), (84, .invokevirtual 86), (87, .goto 35), (90, .aload_n 1), (91, .getfield 90), (94, .iload_n 3), (95, .aload_n 1), (96, .invokevirtual 94), (99, .iastore), (100, .goto 22), (103, .aload_n 0), (104, .getfield 27), (107, .aload_n 1), (108, .invokevirtual 94), (111, .invokevirtual 98), (114, .goto 8), (117, .aload_n 1), (118, .iload_n 2), (119, .invokestatic 101), (122, .return_)]
def fl_U_stepOnValues : List (Nat × Nat × Nat × Nat) := [(90, 7, 0, 2), (93, 1, 0, 2), (27, 8, 2, 2)]
def cb_U_stepOnValues : List (Instr × Nat × Nat × Option Nat × am_F) := [(.invokevirtual 86, 86, 3, (some 7), f_F_put), (.invokevirtual 94, 94, 1, (some 7), f_F_take), (.invokevirtual 98, 98, 2, (some 6), f_O_print), (.invokestatic 101, 101, 2, none, f_U_calculate)]
def m_U_stepOnValues : am_M := am_mk co_U_stepOnValues fl_U_stepOnValues (cb_U_stepOnValues.map (fun z => z.2)) [] [] none 2
def f_U_stepOnValues : am_F := am_mf m_U_stepOnValues 5
theorem o_U_stepOnValues : am_ok m_U_stepOnValues := am_mk_ok (am_cb_ok (List.forall_mem_cons.mpr ⟨n_F_put, (List.forall_mem_cons.mpr ⟨n_F_take, (List.forall_mem_cons.mpr ⟨n_O_print, (List.forall_mem_cons.mpr ⟨n_U_calculate, (fun _ h => absurd h List.not_mem_nil)⟩)⟩)⟩)⟩))
theorem n_U_stepOnValues : am_mono f_U_stepOnValues := am_mf_mono o_U_stepOnValues
theorem g_U_stepOnValues : ∀ x q, am_cal m_U_stepOnValues x = some q → am_grow q.2.2 := am_mk_grow (am_cb_gr (List.forall_mem_cons.mpr ⟨h_F_put, (List.forall_mem_cons.mpr ⟨h_F_take, (List.forall_mem_cons.mpr ⟨h_O_print, (List.forall_mem_cons.mpr ⟨h_U_calculate, (fun _ h => absurd h List.not_mem_nil)⟩)⟩)⟩)⟩))
theorem h_U_stepOnValues : am_grow f_U_stepOnValues := am_mf_grow g_U_stepOnValues
def y_U_step : MethodName := ⟨"PatchedMachine$Runner", "step", "(LPatchedMachine$Program;)V"⟩
def co_U_step : List (Nat × Instr) := [(0, .aload_n 0), (1, .getfield 31), (4, .ifCond .ne 4), (7, .return_), (8, .aload_n 0), (9, .getfield 11), (12, .aload_n 0), (13, .getfield 31), (16, .iconst 1), (17, .isub), (18, .aaload), (19, .astore_n 2), (20, .aload_n 1), (21, .getfield 49), (24, .aload_n 2), (25, .getfield 46), (28, .aaload), (29, .astore_n 3), (30, .aload_n 2), (31, .getfield 55), (34, .istore 4), (36, .aload_n 3), (37, .iload 4), (39, .invokevirtual 58), (42, .ifCond .ne 4), (45, .return_), (46, .aload_n 2), (47, .iload 4), (49, .iconst 1), (50, .iadd), (51, .putfield 55), (54, .aload_n 3), (55, .getfield 64), (58, .iload 4), (60, .iaload), (61, .istore 5), (63, .iload 5), (65, .bipush 10), (67, .if_icmp .eq 24), (70, .iload 5), (72, .bipush 11), (74, .if_icmp .eq 17), (77, .iload 5), (79, .bipush 12), (81, .if_icmp .eq 10), (84, .iload 5), (86, .bipush 15), (88, .if_icmp .ne 28), (91, .aload_n 0), (92, .aload_n 2), (93, .iload 5), (95, .aload_n 3), (96, .getfield 68), (99, .iload 4), (101, .iaload), (102, .aload_n 3), (103, .getfield 71), (106, .iload 4), (108, .iaload), (109, .aload_n 1), (110, .invokevirtual 74), (113, .goto 64), (116, .iload 5), (118, .bipush 8), (120, .if_icmp .eq 24), (123, .iload 5), (125, .bipush 9), (127, .if_icmp .eq 17), (130, .iload 5), (132, .bipush 13), (134, .if_icmp .eq 10), (137, .iload 5), (139, .bipush 14), (141, .if_icmp .ne 21), (144, .aload_n 0), (145, .aload_n 2), (146, .iload 5), (148, .aload_n 3), (149, .getfield 68), (152, .iload 4), (154, .iaload), (155, .aload_n 1), (156, .invokevirtual 78), (159, .goto 18), (162, .aload_n 0), (163, .aload_n 2), (164, .iload 5), (166, .aload_n 3), (167, .getfield 68), (170, .iload 4), (172, .iaload), (173, .aload_n 3), (174, .invokevirtual 82), (177, .return_)]
def fl_U_step : List (Nat × Nat × Nat × Nat) := [(31, 8, 3, 0), (11, 8, 0, 2), (49, 2, 1, 2), (46, 7, 4, 0), (55, 7, 5, 0), (64, 1, 1, 2), (68, 1, 2, 2), (71, 1, 3, 2)]
def cb_U_step : List (Instr × Nat × Nat × Option Nat × am_F) := [(.invokevirtual 58, 58, 2, (some 1), f_R_hasPlace), (.invokevirtual 74, 74, 6, (some 8), f_U_stepOnObjects), (.invokevirtual 78, 78, 5, (some 8), f_U_stepElsewhere), (.invokevirtual 82, 82, 5, (some 8), f_U_stepOnValues)]
def m_U_step : am_M := am_mk co_U_step fl_U_step (cb_U_step.map (fun z => z.2)) [] [] none 2
def f_U_step : am_F := am_mf m_U_step 2
theorem o_U_step : am_ok m_U_step := am_mk_ok (am_cb_ok (List.forall_mem_cons.mpr ⟨n_R_hasPlace, (List.forall_mem_cons.mpr ⟨n_U_stepOnObjects, (List.forall_mem_cons.mpr ⟨n_U_stepElsewhere, (List.forall_mem_cons.mpr ⟨n_U_stepOnValues, (fun _ h => absurd h List.not_mem_nil)⟩)⟩)⟩)⟩))
theorem n_U_step : am_mono f_U_step := am_mf_mono o_U_step
theorem g_U_step : ∀ x q, am_cal m_U_step x = some q → am_grow q.2.2 := am_mk_grow (am_cb_gr (List.forall_mem_cons.mpr ⟨h_R_hasPlace, (List.forall_mem_cons.mpr ⟨h_U_stepOnObjects, (List.forall_mem_cons.mpr ⟨h_U_stepElsewhere, (List.forall_mem_cons.mpr ⟨h_U_stepOnValues, (fun _ h => absurd h List.not_mem_nil)⟩)⟩)⟩)⟩))
theorem h_U_step : am_grow f_U_step := am_mf_grow g_U_step
def y_X_run : MethodName := ⟨"PatchedMachine", "run", "(I)I"⟩
def co_X_run : List (Nat × Instr) := [(0, .iload_n 1), (1, .iconst 1), (2, .if_icmp .lt 20), (5, .iload_n 1), (6, .sipush 300), (9, .if_icmp .gt 13), (12, .aload_n 0), (13, .getfield 33), (16, .invokevirtual 140), (19, .ifCond .ne 5), (22, .iconst (-1)), (23, .ireturn), (24, .iconst 0), (25, .istore_n 2), (26, .iload_n 2), (27, .iload_n 1), (28, .if_icmp .ge 37), (31, .aload_n 0), (32, .getfield 33), (35, .invokevirtual 140), (38, .ifCond .eq 27), (41, .aload_n 0), (42, .getfield 33), (45, .aload_n 0), (46, .getfield 19), (49, .invokevirtual 143), (52, .invokevirtual 158), (55, .aload_n 0), (56, .invokevirtual 128), (59, .iinc 2 1), (62, .goto (-36)), (65, .iload_n 2), (66, .ireturn)]
def fl_X_run : List (Nat × Nat × Nat × Nat) := [(33, 9, 3, 2), (19, 9, 1, 2)]
def cb_X_run : List (Instr × Nat × Nat × Option Nat × am_F) := [(.invokevirtual 140, 140, 1, (some 8), f_U_goesOn), (.invokevirtual 143, 143, 1, (some 3), f_Q_present), (.invokevirtual 158, 158, 2, (some 8), f_U_step), (.invokevirtual 128, 128, 1, (some 9), f_X_applyWhatCan)]
def m_X_run : am_M := am_mk co_X_run fl_X_run (cb_X_run.map (fun z => z.2)) [] [] none 0
def f_X_run : am_F := am_mf m_X_run 2
theorem o_X_run : am_ok m_X_run := am_mk_ok (am_cb_ok (List.forall_mem_cons.mpr ⟨n_U_goesOn, (List.forall_mem_cons.mpr ⟨n_Q_present, (List.forall_mem_cons.mpr ⟨n_U_step, (List.forall_mem_cons.mpr ⟨n_X_applyWhatCan, (fun _ h => absurd h List.not_mem_nil)⟩)⟩)⟩)⟩))
theorem n_X_run : am_mono f_X_run := am_mf_mono o_X_run
theorem g_X_run : ∀ x q, am_cal m_X_run x = some q → am_grow q.2.2 := am_mk_grow (am_cb_gr (List.forall_mem_cons.mpr ⟨h_U_goesOn, (List.forall_mem_cons.mpr ⟨h_Q_present, (List.forall_mem_cons.mpr ⟨h_U_step, (List.forall_mem_cons.mpr ⟨h_X_applyWhatCan, (fun _ h => absurd h List.not_mem_nil)⟩)⟩)⟩)⟩))
theorem h_X_run : am_grow f_X_run := am_mf_grow g_X_run
def y_X_status : MethodName := ⟨"PatchedMachine", "status", "()I"⟩
def co_X_status : List (Nat × Instr) := [(0, .aload_n 0), (1, .getfield 33), (4, .getfield 161), (7, .ireturn)]
def fl_X_status : List (Nat × Nat × Nat × Nat) := [(33, 9, 3, 2), (161, 8, 4, 0)]
def cb_X_status : List (Instr × Nat × Nat × Option Nat × am_F) := []
def m_X_status : am_M := am_mk co_X_status fl_X_status (cb_X_status.map (fun z => z.2)) [] [] none 0
def f_X_status : am_F := am_mf m_X_status 1
theorem o_X_status : am_ok m_X_status := am_mk_ok (am_cb_ok (fun _ h => absurd h List.not_mem_nil))
theorem n_X_status : am_mono f_X_status := am_mf_mono o_X_status
theorem g_X_status : ∀ x q, am_cal m_X_status x = some q → am_grow q.2.2 := am_mk_grow (am_cb_gr (fun _ h => absurd h List.not_mem_nil))
theorem h_X_status : am_grow f_X_status := am_mf_grow g_X_status
def y_X_result : MethodName := ⟨"PatchedMachine", "result", "()I"⟩
def co_X_result : List (Nat × Instr) := [(0, .aload_n 0), (1, .getfield 33), (4, .getfield 164), (7, .ireturn)]
def fl_X_result : List (Nat × Nat × Nat × Nat) := [(33, 9, 3, 2), (164, 8, 5, 0)]
def cb_X_result : List (Instr × Nat × Nat × Option Nat × am_F) := []
def m_X_result : am_M := am_mk co_X_result fl_X_result (cb_X_result.map (fun z => z.2)) [] [] none 0
def f_X_result : am_F := am_mf m_X_result 1
theorem o_X_result : am_ok m_X_result := am_mk_ok (am_cb_ok (fun _ h => absurd h List.not_mem_nil))
theorem n_X_result : am_mono f_X_result := am_mf_mono o_X_result
theorem g_X_result : ∀ x q, am_cal m_X_result x = some q → am_grow q.2.2 := am_mk_grow (am_cb_gr (fun _ h => absurd h List.not_mem_nil))
theorem h_X_result : am_grow f_X_result := am_mf_grow g_X_result
def y_X_depth : MethodName := ⟨"PatchedMachine", "depth", "()I"⟩
def co_X_depth : List (Nat × Instr) := [(0, .aload_n 0), (1, .getfield 33), (4, .getfield 165), (7, .ireturn)]
def fl_X_depth : List (Nat × Nat × Nat × Nat) := [(33, 9, 3, 2), (165, 8, 3, 0)]
def cb_X_depth : List (Instr × Nat × Nat × Option Nat × am_F) := []
def m_X_depth : am_M := am_mk co_X_depth fl_X_depth (cb_X_depth.map (fun z => z.2)) [] [] none 0
def f_X_depth : am_F := am_mf m_X_depth 1
theorem o_X_depth : am_ok m_X_depth := am_mk_ok (am_cb_ok (fun _ h => absurd h List.not_mem_nil))
theorem n_X_depth : am_mono f_X_depth := am_mf_mono o_X_depth
theorem g_X_depth : ∀ x q, am_cal m_X_depth x = some q → am_grow q.2.2 := am_mk_grow (am_cb_gr (fun _ h => absurd h List.not_mem_nil))
theorem h_X_depth : am_grow f_X_depth := am_mf_grow g_X_depth
def y_X_frame : MethodName := ⟨"PatchedMachine", "frame", "(I)I"⟩
def co_X_frame : List (Nat × Instr) := [(0, .iload_n 1), (1, .ifCond .lt 14), (4, .iload_n 1), (5, .aload_n 0), (6, .getfield 33), (9, .getfield 165), (12, .if_icmp .lt 5), (15, .iconst (-1)), (16, .ireturn), (17, .aload_n 0), (18, .getfield 33), (21, .getfield 168), (24, .aload_n 0), (25, .getfield 33), (28, .getfield 165), (31, .iconst 1), (32, .isub), (33, .iload_n 1), (34, .isub), (35, .aaload), (36, .astore_n 2), (37, .bipush 100), (39, .aload_n 2), (40, .getfield 172), (43, .imul), (44, .aload_n 2), (45, .getfield 177), (48, .iadd), (49, .ireturn)]
def fl_X_frame : List (Nat × Nat × Nat × Nat) := [(33, 9, 3, 2), (165, 8, 3, 0), (168, 8, 0, 2), (172, 7, 4, 0), (177, 7, 5, 0)]
def cb_X_frame : List (Instr × Nat × Nat × Option Nat × am_F) := []
def m_X_frame : am_M := am_mk co_X_frame fl_X_frame (cb_X_frame.map (fun z => z.2)) [] [] none 0
def f_X_frame : am_F := am_mf m_X_frame 2
theorem o_X_frame : am_ok m_X_frame := am_mk_ok (am_cb_ok (fun _ h => absurd h List.not_mem_nil))
theorem n_X_frame : am_mono f_X_frame := am_mf_mono o_X_frame
theorem g_X_frame : ∀ x q, am_cal m_X_frame x = some q → am_grow q.2.2 := am_mk_grow (am_cb_gr (fun _ h => absurd h List.not_mem_nil))
theorem h_X_frame : am_grow f_X_frame := am_mf_grow g_X_frame
def y_X_objects : MethodName := ⟨"PatchedMachine", "objects", "()I"⟩
def co_X_objects : List (Nat × Instr) := [(0, .aload_n 0), (1, .getfield 33), (4, .getfield 180), (7, .getfield 184), (10, .ireturn)]
def fl_X_objects : List (Nat × Nat × Nat × Nat) := [(33, 9, 3, 2), (180, 8, 1, 2), (184, 5, 6, 0)]
def cb_X_objects : List (Instr × Nat × Nat × Option Nat × am_F) := []
def m_X_objects : am_M := am_mk co_X_objects fl_X_objects (cb_X_objects.map (fun z => z.2)) [] [] none 0
def f_X_objects : am_F := am_mf m_X_objects 1
theorem o_X_objects : am_ok m_X_objects := am_mk_ok (am_cb_ok (fun _ h => absurd h List.not_mem_nil))
theorem n_X_objects : am_mono f_X_objects := am_mf_mono o_X_objects
theorem g_X_objects : ∀ x q, am_cal m_X_objects x = some q → am_grow q.2.2 := am_mk_grow (am_cb_gr (fun _ h => absurd h List.not_mem_nil))
theorem h_X_objects : am_grow f_X_objects := am_mf_grow g_X_objects
def y_O_latestBut : MethodName := ⟨"PatchedMachine$Printer", "latestBut", "(I)I"⟩
def co_O_latestBut : List (Nat × Instr) := [(0, .iload_n 1), (1, .ifCond .lt 17), (4, .iload_n 1), (5, .bipush 16), (7, .if_icmp .ge 11), (10, .iload_n 1), (11, .aload_n 0), (12, .getfield 15), (15, .if_icmp .lt 5), (18, .iconst 0), (19, .ireturn), (20, .aload_n 0), (21, .getfield 9), (24, .aload_n 0), (25, .getfield 15), (28, .iconst 1), (29, .isub), (30, .iload_n 1), (31, .isub), (32, .bipush 16), (34, .invokestatic 19), (37, .iaload), (38, .ireturn)]
def fl_O_latestBut : List (Nat × Nat × Nat × Nat) := [(15, 6, 1, 0), (9, 6, 0, 2)]
def cb_O_latestBut : List (Instr × Nat × Nat × Option Nat × am_F) := [(.invokestatic 19, 19, 2, none, f_J_floorMod)]
def m_O_latestBut : am_M := am_mk co_O_latestBut fl_O_latestBut (cb_O_latestBut.map (fun z => z.2)) [] [] none 0
def f_O_latestBut : am_F := am_mf m_O_latestBut 2
theorem o_O_latestBut : am_ok m_O_latestBut := am_mk_ok (am_cb_ok (List.forall_mem_cons.mpr ⟨n_J_floorMod, (fun _ h => absurd h List.not_mem_nil)⟩))
theorem n_O_latestBut : am_mono f_O_latestBut := am_mf_mono o_O_latestBut
theorem g_O_latestBut : ∀ x q, am_cal m_O_latestBut x = some q → am_grow q.2.2 := am_mk_grow (am_cb_gr (List.forall_mem_cons.mpr ⟨h_J_floorMod, (fun _ h => absurd h List.not_mem_nil)⟩))
theorem h_O_latestBut : am_grow f_O_latestBut := am_mf_grow g_O_latestBut
def y_X_output : MethodName := ⟨"PatchedMachine", "output", "(I)I"⟩
def co_X_output : List (Nat × Instr) := [(0, .aload_n 0), (1, .getfield 33), (4, .getfield 189), (7, .iload_n 1), (8, .invokevirtual 193), (11, .ireturn)]
def fl_X_output : List (Nat × Nat × Nat × Nat) := [(33, 9, 3, 2), (189, 8, 2, 2)]
def cb_X_output : List (Instr × Nat × Nat × Option Nat × am_F) := [(.invokevirtual 193, 193, 2, (some 6), f_O_latestBut)]
def m_X_output : am_M := am_mk co_X_output fl_X_output (cb_X_output.map (fun z => z.2)) [] [] none 0
def f_X_output : am_F := am_mf m_X_output 2
theorem o_X_output : am_ok m_X_output := am_mk_ok (am_cb_ok (List.forall_mem_cons.mpr ⟨n_O_latestBut, (fun _ h => absurd h List.not_mem_nil)⟩))
theorem n_X_output : am_mono f_X_output := am_mf_mono o_X_output
theorem g_X_output : ∀ x q, am_cal m_X_output x = some q → am_grow q.2.2 := am_mk_grow (am_cb_gr (List.forall_mem_cons.mpr ⟨h_O_latestBut, (fun _ h => absurd h List.not_mem_nil)⟩))
theorem h_X_output : am_grow f_X_output := am_mf_grow g_X_output
def y_X_outputs : MethodName := ⟨"PatchedMachine", "outputs", "()I"⟩
def co_X_outputs : List (Nat × Instr) := [(0, .aload_n 0), (1, .getfield 33), (4, .getfield 189), (7, .getfield 198), (10, .ireturn)]
def fl_X_outputs : List (Nat × Nat × Nat × Nat) := [(33, 9, 3, 2), (189, 8, 2, 2), (198, 6, 1, 0)]
def cb_X_outputs : List (Instr × Nat × Nat × Option Nat × am_F) := []
def m_X_outputs : am_M := am_mk co_X_outputs fl_X_outputs (cb_X_outputs.map (fun z => z.2)) [] [] none 0
def f_X_outputs : am_F := am_mf m_X_outputs 1
theorem o_X_outputs : am_ok m_X_outputs := am_mk_ok (am_cb_ok (fun _ h => absurd h List.not_mem_nil))
theorem n_X_outputs : am_mono f_X_outputs := am_mf_mono o_X_outputs
theorem g_X_outputs : ∀ x q, am_cal m_X_outputs x = some q → am_grow q.2.2 := am_mk_grow (am_cb_gr (fun _ h => absurd h List.not_mem_nil))
theorem h_X_outputs : am_grow f_X_outputs := am_mf_grow g_X_outputs
def y_X_shape : MethodName := ⟨"PatchedMachine", "shape", "(II)I"⟩
def co_X_shape : List (Nat × Instr) := [(0, .iload_n 1), (1, .invokestatic 44), (4, .ifCond .ne 5), (7, .iconst (-1)), (8, .ireturn), (9, .aload_n 0), (10, .getfield 19), (13, .invokevirtual 143), (16, .getfield 61), (19, .iload_n 1), (20, .aaload), (21, .astore_n 3), (22, .iload_n 2), (23, .iconst (-1)), (24, .if_icmp .ne 8), (27, .aload_n 3), (28, .getfield 199), (31, .ireturn), (32, .iload_n 2), (33, .ifCond .lt 11), (36, .iload_n 2), (37, .aload_n 3), (38, .getfield 199), (41, .if_icmp .lt 5), (44, .iconst (-1)), (45, .ireturn), (46, .bipush 16), (48, .aload_n 3), (49, .getfield 202), (52, .iload_n 2), (53, .iaload), (54, .imul), (55, .aload_n 3), (56, .getfield 206), (59, .iload_n 2), (60, .iaload), (61, .iadd), (62, .ireturn)]
def fl_X_shape : List (Nat × Nat × Nat × Nat) := [(19, 9, 1, 2), (61, 2, 0, 2), (199, 0, 3, 0), (202, 0, 0, 2), (206, 0, 1, 2)]
def cb_X_shape : List (Instr × Nat × Nat × Option Nat × am_F) := [(.invokestatic 44, 44, 1, none, f_X_isClass), (.invokevirtual 143, 143, 1, (some 3), f_Q_present)]
def m_X_shape : am_M := am_mk co_X_shape fl_X_shape (cb_X_shape.map (fun z => z.2)) [] [] none 0
def f_X_shape : am_F := am_mf m_X_shape 3
theorem o_X_shape : am_ok m_X_shape := am_mk_ok (am_cb_ok (List.forall_mem_cons.mpr ⟨n_X_isClass, (List.forall_mem_cons.mpr ⟨n_Q_present, (fun _ h => absurd h List.not_mem_nil)⟩)⟩))
theorem n_X_shape : am_mono f_X_shape := am_mf_mono o_X_shape
theorem g_X_shape : ∀ x q, am_cal m_X_shape x = some q → am_grow q.2.2 := am_mk_grow (am_cb_gr (List.forall_mem_cons.mpr ⟨h_X_isClass, (List.forall_mem_cons.mpr ⟨h_Q_present, (fun _ h => absurd h List.not_mem_nil)⟩)⟩))
theorem h_X_shape : am_grow f_X_shape := am_mf_grow g_X_shape
def y_M_init : MethodName := ⟨"PatchedMachineModel", "<init>", "()V"⟩
def co_M_init : List (Nat × Instr) := [(0, .aload_n 0), (1, .invokespecial 1), (4, .aload_n 0), (5, .bipush 15), (7, .newarray .int), (9, .putfield 7), (12, .aload_n 0), (13, .bipush 60), (15, .newarray .int), (17, .putfield 13), (20, .aload_n 0), (21, .bipush 60), (23, .newarray .int), (25, .putfield 16), (28, .aload_n 0), (29, .bipush 60), (31, .newarray .int), (33, .putfield 19), (36, .aload_n 0), (37, .bipush 30), (39, .newarray .int), (41, .putfield 22), (44, .aload_n 0), (45, .bipush 30), (47, .newarray .int), (49, .putfield 25), (52, .aload_n 0), (53, .bipush 30), (55, .newarray .int), (57, .putfield 28), (60, .aload_n 0), (61, .bipush 30), (63, .newarray .int), (65, .putfield 31), (68, .aload_n 0), (69, .sipush 420), (72, .newarray .int), (74, .putfield 34), (77, .aload_n 0), (78, .sipush 420), (81, .newarray .int), (83, .putfield 37), (86, .aload_n 0), (87, .sipush 420), (90, .newarray .int), (92, .putfield 40), (95, .aload_n 0), (96, .iconst 5), (97, .newarray .int), (99, .putfield 43), (102, .aload_n 0), (103, .iconst 5), (104, .newarray .int), (106, .putfield 46), (109, .aload_n 0), (110, .iconst 5), (111, .newarray .int), (113, .putfield 49), (116, .aload_n 0), (117, .bipush 8), (119, .newarray .int), (121, .putfield 52), (124, .aload_n 0), (125, .bipush 8), (127, .newarray .int), (129, .putfield 55), (132, .aload_n 0), (133, .bipush 8), (135, .newarray .int), (137, .putfield 58), (140, .aload_n 0), (141, .bipush 32), (143, .newarray .int), (145, .putfield 61), (148, .aload_n 0), (149, .bipush 48), (151, .newarray .int), (153, .putfield 64), (156, .aload_n 0), (157, .bipush 48), (159, .newarray .int), (161, .putfield 67), (164, .aload_n 0), (165, .bipush 8), (167, .newarray .int), (169, .putfield 70), (172, .aload_n 0), (173, .bipush 17), (175, .newarray .int), (177, .putfield 73), (180, .aload_n 0), (181, .bipush 68), (183, .newarray .int), (185, .putfield 76), (188, .aload_n 0), (189, .bipush 17), (191, .newarray .boolean), (193, .putfield 79), (196, .aload_n 0), (197, .iconst 4), (198, .newarray .int), (200, .putfield 83), (203, .aload_n 0), (204, .bipush 16), (206, .newarray .int), (208, .putfield 86), (211, .return_)]
def fl_M_init : List (Nat × Nat × Nat × Nat) := [(7, 10, 0, 2), (13, 10, 1, 2), (16, 10, 2, 2), (19, 10, 3, 2), (22, 10, 4, 2), (25, 10, 5, 2), (28, 10, 6, 2), (31, 10, 7, 2), (34, 10, 8, 2), (37, 10, 9, 2), (40, 10, 10, 2), (43, 10, 11, 2), (46, 10, 12, 2), (49, 10, 13, 2), (52, 10, 17, 2), (55, 10, 22, 2), (58, 10, 23, 2), (61, 10, 24, 2), (64, 10, 25, 2), (67, 10, 26, 2), (70, 10, 27, 2), (73, 10, 28, 2), (76, 10, 29, 2), (79, 10, 30, 2), (83, 10, 31, 2), (86, 10, 32, 2)]
def cb_M_init : List (Instr × Nat × Nat × Option Nat × am_F) := [(.invokespecial 1, 1, 1, none, am_obj)]
def m_M_init : am_M := am_mk co_M_init fl_M_init (cb_M_init.map (fun z => z.2)) [] [] none 2
def f_M_init : am_F := am_mf m_M_init 1
theorem o_M_init : am_ok m_M_init := am_mk_ok (am_cb_ok (List.forall_mem_cons.mpr ⟨am_obj_mono, (fun _ h => absurd h List.not_mem_nil)⟩))
theorem n_M_init : am_mono f_M_init := am_mf_mono o_M_init
theorem g_M_init : ∀ x q, am_cal m_M_init x = some q → am_grow q.2.2 := am_mk_grow (am_cb_gr (List.forall_mem_cons.mpr ⟨am_obj_grow, (fun _ h => absurd h List.not_mem_nil)⟩))
theorem h_M_init : am_grow f_M_init := am_mf_grow g_M_init
def y_M_in : MethodName := ⟨"PatchedMachineModel", "in", "(III)Z"⟩
def co_M_in : List (Nat × Instr) := [(0, .iload_n 0), (1, .iload_n 1), (2, .if_icmp .lt 12), (5, .iload_n 0), (6, .iload_n 2), (7, .if_icmp .gt 7), (10, .iconst 1), (11, .goto 4), (14, .iconst 0), (15, .ireturn)]
def fl_M_in : List (Nat × Nat × Nat × Nat) := []
def cb_M_in : List (Instr × Nat × Nat × Option Nat × am_F) := []
def m_M_in : am_M := am_mk co_M_in fl_M_in (cb_M_in.map (fun z => z.2)) [] [] none 1
def f_M_in : am_F := am_mf m_M_in 3
theorem o_M_in : am_ok m_M_in := am_mk_ok (am_cb_ok (fun _ h => absurd h List.not_mem_nil))
theorem n_M_in : am_mono f_M_in := am_mf_mono o_M_in
theorem g_M_in : ∀ x q, am_cal m_M_in x = some q → am_grow q.2.2 := am_mk_grow (am_cb_gr (fun _ h => absurd h List.not_mem_nil))
theorem h_M_in : am_grow f_M_in := am_mf_grow g_M_in
def y_M_layout : MethodName := ⟨"PatchedMachineModel", "layout", "(I)Z"⟩
def co_M_layout : List (Nat × Instr) := [(0, .iload_n 1), (1, .iconst 1), (2, .iconst 3), (3, .invokestatic 89), (6, .ifCond .ne 5), (9, .iconst 0), (10, .ireturn), (11, .aload_n 0), (12, .getfield 7), (15, .bipush 12), (17, .iload_n 1), (18, .iadd), (19, .iconst 1), (20, .isub), (21, .iconst 0), (22, .iastore), (23, .aload_n 0), (24, .getfield 43), (27, .iconst 4), (28, .aload_n 0), (29, .getfield 43), (32, .iconst 4), (33, .iaload), (34, .iconst 1), (35, .iload_n 1), (36, .ishl), (37, .ior), (38, .iastore), (39, .iconst 1), (40, .ireturn)]
def fl_M_layout : List (Nat × Nat × Nat × Nat) := [(7, 10, 0, 2), (43, 10, 11, 2)]
def cb_M_layout : List (Instr × Nat × Nat × Option Nat × am_F) := [(.invokestatic 89, 89, 3, none, f_M_in)]
def m_M_layout : am_M := am_mk co_M_layout fl_M_layout (cb_M_layout.map (fun z => z.2)) [] [] none 1
def f_M_layout : am_F := am_mf m_M_layout 2
theorem o_M_layout : am_ok m_M_layout := am_mk_ok (am_cb_ok (List.forall_mem_cons.mpr ⟨n_M_in, (fun _ h => absurd h List.not_mem_nil)⟩))
theorem n_M_layout : am_mono f_M_layout := am_mf_mono o_M_layout
theorem g_M_layout : ∀ x q, am_cal m_M_layout x = some q → am_grow q.2.2 := am_mk_grow (am_cb_gr (List.forall_mem_cons.mpr ⟨h_M_in, (fun _ h => absurd h List.not_mem_nil)⟩))
theorem h_M_layout : am_grow f_M_layout := am_mf_grow g_M_layout
def y_M_find : MethodName := ⟨"PatchedMachineModel", "find", "(III)I"⟩
def co_M_find : List (Nat × Instr) := [(0, .iconst 0), (1, .istore 4), (3, .iload 4), (5, .aload_n 0), (6, .getfield 7), (9, .iconst 3), (10, .iload_n 1), (11, .imul), (12, .iload_n 2), (13, .iadd), (14, .iconst 1), (15, .isub), (16, .iaload), (17, .if_icmp .ge 33), (20, .aload_n 0), (21, .getfield 13), (24, .iconst 4), (25, .iconst 3), (26, .iload_n 1), (27, .imul), (28, .iload_n 2), (29, .iadd), (30, .iconst 1), (31, .isub), (32, .imul), (33, .iload 4), (35, .iadd), (36, .iaload), (37, .iload_n 3), (38, .if_icmp .ne 6), (41, .iload 4), (43, .ireturn), (44, .iinc 4 1), (47, .goto (-44)), (50, .iconst (-1)), (51, .ireturn)]
def fl_M_find : List (Nat × Nat × Nat × Nat) := [(7, 10, 0, 2), (13, 10, 1, 2)]
def cb_M_find : List (Instr × Nat × Nat × Option Nat × am_F) := []
def m_M_find : am_M := am_mk co_M_find fl_M_find (cb_M_find.map (fun z => z.2)) [] [] none 0
def f_M_find : am_F := am_mf m_M_find 4
theorem o_M_find : am_ok m_M_find := am_mk_ok (am_cb_ok (fun _ h => absurd h List.not_mem_nil))
theorem n_M_find : am_mono f_M_find := am_mf_mono o_M_find
theorem g_M_find : ∀ x q, am_cal m_M_find x = some q → am_grow q.2.2 := am_mk_grow (am_cb_gr (fun _ h => absurd h List.not_mem_nil))
theorem h_M_find : am_grow f_M_find := am_mf_grow g_M_find
def y_M_typeOf : MethodName := ⟨"PatchedMachineModel", "typeOf", "(III)I"⟩
def co_M_typeOf : List (Nat × Instr) := [(0, .aload_n 0), (1, .getfield 16), (4, .iconst 4), (5, .iconst 3), (6, .iload_n 1), (7, .imul), (8, .iload_n 2), (9, .iadd), (10, .iconst 1), (11, .isub), (12, .imul), (13, .iload_n 3), (14, .iadd), (15, .iaload), (16, .ireturn)]
def fl_M_typeOf : List (Nat × Nat × Nat × Nat) := [(16, 10, 2, 2)]
def cb_M_typeOf : List (Instr × Nat × Nat × Option Nat × am_F) := []
def m_M_typeOf : am_M := am_mk co_M_typeOf fl_M_typeOf (cb_M_typeOf.map (fun z => z.2)) [] [] none 0
def f_M_typeOf : am_F := am_mf m_M_typeOf 4
theorem o_M_typeOf : am_ok m_M_typeOf := am_mk_ok (am_cb_ok (fun _ h => absurd h List.not_mem_nil))
theorem n_M_typeOf : am_mono f_M_typeOf := am_mf_mono o_M_typeOf
theorem g_M_typeOf : ∀ x q, am_cal m_M_typeOf x = some q → am_grow q.2.2 := am_mk_grow (am_cb_gr (fun _ h => absurd h List.not_mem_nil))
theorem h_M_typeOf : am_grow f_M_typeOf := am_mf_grow g_M_typeOf
def y_M_field : MethodName := ⟨"PatchedMachineModel", "field", "(IIII)Z"⟩
def co_M_field : List (Nat × Instr) := [(0, .iload_n 1), (1, .iconst 1), (2, .iconst 3), (3, .invokestatic 89), (6, .ifCond .eq 60), (9, .aload_n 0), (10, .getfield 43), (13, .iconst 4), (14, .iaload), (15, .iload_n 1), (16, .ishr), (17, .iconst 1), (18, .iand), (19, .ifCond .eq 47), (22, .aload_n 0), (23, .getfield 7), (26, .bipush 12), (28, .iload_n 1), (29, .iadd), (30, .iconst 1), (31, .isub), (32, .iaload), (33, .iconst 4), (34, .if_icmp .eq 32), (37, .iload_n 2), (38, .iconst 0), (39, .bipush 9), (41, .invokestatic 89), (44, .ifCond .eq 22), (47, .aload_n 0), (48, .iconst 4), (49, .iload_n 1), (50, .iload_n 2), (51, .invokevirtual 93), (54, .ifCond .ge 12), (57, .iload_n 3), (58, .iconst 0), (59, .iconst 3), (60, .invokestatic 89), (63, .ifCond .ne 5), (66, .iconst 0), (67, .ireturn), (68, .iload 4), (70, .iconst (-1)), (71, .if_icmp .ne 7), (74, .iconst (-1)), (75, .goto 14), (78, .aload_n 0), (79, .aload_n 0), (80, .getfield 97), (83, .iload_n 1), (84, .iload 4), (86, .invokevirtual 93), (89, .istore 5), (91, .iload 4), (93, .iconst (-1)), (94, .if_icmp .eq 25), (97, .iload 5), (99, .ifCond .lt 18), (102, .aload_n 0), (103, .aload_n 0), (104, .getfield 97), (107, .iload_n 1), (108, .iload 5), (110, .invokevirtual 101), (113, .iload_n 3), (114, .if_icmp .eq 5), (117, .iconst 0), (118, .ireturn), (119, .iconst 4), (120, .bipush 12), (122, .iload_n 1), (123, .iadd), (124, .iconst 1), (125, .isub), (126, .imul), (127, .aload_n 0), (128, .getfield 7), (131, .bipush 12), (133, .iload_n 1), (134, .iadd), (135, .iconst 1), (136, .isub), (137, .iaload), (138, .iadd), (139, .istore 6), (141, .aload_n 0), (142, .getfield 13), (145, .iload 6), (147, .iload_n 2), (148, .iastore), (149, .aload_n 0), (150, .getfield 16), (153, .iload 6), (155, .iload_n 3), (156, .iastore), (157, .aload_n 0), (158, .getfield 19), (161, .iload 6), (163, .iload 4), (165, .iastore), (166, .aload_n 0), (167, .getfield 7), (170, .bipush 12), (172, .iload_n 1), (173, .iadd), (174, .iconst 1), (175, .isub), (176, .dup2), (177, .iaload), (178, .iconst 1), (179, .iadd), (180, .iastore), (181, .iconst 1), (182, .ireturn)]
def fl_M_field : List (Nat × Nat × Nat × Nat) := [(43, 10, 11, 2), (7, 10, 0, 2), (97, 10, 14, 0), (13, 10, 1, 2), (16, 10, 2, 2), (19, 10, 3, 2)]
def cb_M_field : List (Instr × Nat × Nat × Option Nat × am_F) := [(.invokestatic 89, 89, 3, none, f_M_in), (.invokevirtual 93, 93, 4, (some 10), f_M_find), (.invokevirtual 101, 101, 4, (some 10), f_M_typeOf)]
def m_M_field : am_M := am_mk co_M_field fl_M_field (cb_M_field.map (fun z => z.2)) [] [] none 1
def f_M_field : am_F := am_mf m_M_field 5
theorem o_M_field : am_ok m_M_field := am_mk_ok (am_cb_ok (List.forall_mem_cons.mpr ⟨n_M_in, (List.forall_mem_cons.mpr ⟨n_M_find, (List.forall_mem_cons.mpr ⟨n_M_typeOf, (fun _ h => absurd h List.not_mem_nil)⟩)⟩)⟩))
theorem n_M_field : am_mono f_M_field := am_mf_mono o_M_field
theorem g_M_field : ∀ x q, am_cal m_M_field x = some q → am_grow q.2.2 := am_mk_grow (am_cb_gr (List.forall_mem_cons.mpr ⟨h_M_in, (List.forall_mem_cons.mpr ⟨h_M_find, (List.forall_mem_cons.mpr ⟨h_M_typeOf, (fun _ h => absurd h List.not_mem_nil)⟩)⟩)⟩))
theorem h_M_field : am_grow f_M_field := am_mf_grow g_M_field
def y_M_head : MethodName := ⟨"PatchedMachineModel", "head", "(IIII)Z"⟩
def co_M_head : List (Nat × Instr) := [(0, .iload_n 1), (1, .iconst 0), (2, .iconst 5), (3, .invokestatic 89), (6, .ifCond .eq 33), (9, .iload_n 2), (10, .iconst 0), (11, .iconst 3), (12, .invokestatic 89), (15, .ifCond .eq 24), (18, .iload_n 3), (19, .iconst 0), (20, .sipush 255), (23, .invokestatic 89), (26, .ifCond .eq 13), (29, .iload 4), (31, .iconst 0), (32, .iconst 3), (33, .invokestatic 89), (36, .ifCond .ne 5), (39, .iconst 0), (40, .ireturn), (41, .bipush 24), (43, .iload_n 1), (44, .iadd), (45, .istore 5), (47, .aload_n 0), (48, .getfield 22), (51, .iload 5), (53, .iload_n 2), (54, .iastore), (55, .aload_n 0), (56, .getfield 25), (59, .iload 5), (61, .iload_n 3), (62, .iastore), (63, .aload_n 0), (64, .getfield 28), (67, .iload 5), (69, .iload 4), (71, .iastore), (72, .aload_n 0), (73, .getfield 31), (76, .iload 5), (78, .iconst 0), (79, .iastore), (80, .aload_n 0), (81, .getfield 46), (84, .iconst 4), (85, .aload_n 0), (86, .getfield 46), (89, .iconst 4), (90, .iaload), (91, .iconst 1), (92, .iload_n 1), (93, .ishl), (94, .ior), (95, .iastore), (96, .iconst 1), (97, .ireturn)]
def fl_M_head : List (Nat × Nat × Nat × Nat) := [(22, 10, 4, 2), (25, 10, 5, 2), (28, 10, 6, 2), (31, 10, 7, 2), (46, 10, 12, 2)]
def cb_M_head : List (Instr × Nat × Nat × Option Nat × am_F) := [(.invokestatic 89, 89, 3, none, f_M_in)]
def m_M_head : am_M := am_mk co_M_head fl_M_head (cb_M_head.map (fun z => z.2)) [] [] none 1
def f_M_head : am_F := am_mf m_M_head 5
theorem o_M_head : am_ok m_M_head := am_mk_ok (am_cb_ok (List.forall_mem_cons.mpr ⟨n_M_in, (fun _ h => absurd h List.not_mem_nil)⟩))
theorem n_M_head : am_mono f_M_head := am_mf_mono o_M_head
theorem g_M_head : ∀ x q, am_cal m_M_head x = some q → am_grow q.2.2 := am_mk_grow (am_cb_gr (List.forall_mem_cons.mpr ⟨h_M_in, (fun _ h => absurd h List.not_mem_nil)⟩))
theorem h_M_head : am_grow f_M_head := am_mf_grow g_M_head
def y_M_named : MethodName := ⟨"PatchedMachineModel", "named", "(III)Z"⟩
def co_M_named : List (Nat × Instr) := [(0, .iload_n 0), (1, .bipush 11), (3, .if_icmp .eq 9), (6, .iload_n 0), (7, .bipush 12), (9, .if_icmp .ne 7), (12, .iconst 1), (13, .goto 4), (16, .iconst 0), (17, .istore_n 3), (18, .iload_n 3), (19, .ifCond .eq 13), (22, .iload_n 2), (23, .iconst 0), (24, .bipush 9), (26, .invokestatic 89), (29, .goto 12), (32, .iload_n 2), (33, .ifCond .ne 7), (36, .iconst 1), (37, .goto 4), (40, .iconst 0), (41, .istore 4), (43, .iload_n 0), (44, .iconst 1), (45, .if_icmp .eq 19), (48, .iload_n 0), (49, .bipush 10), (51, .if_icmp .eq 13), (54, .iload_n 3), (55, .ifCond .ne 9), (58, .iload_n 0), (59, .bipush 15), (61, .if_icmp .ne 7), (64, .iconst 1), (65, .goto 4), (68, .iconst 0), (69, .istore 5), (71, .iload_n 0), (72, .iconst 2), (73, .if_icmp .eq 8), (76, .iload_n 0), (77, .iconst 3), (78, .if_icmp .ne 7), (81, .iconst 1), (82, .goto 4), (85, .iconst 0), (86, .istore 6), (88, .iload 5), (90, .ifCond .eq 7), (93, .iconst 1), (94, .goto 4), (97, .iconst 0), (98, .istore 7), (100, .iload 5), (102, .ifCond .ne 8), (105, .iload 6), (107, .ifCond .eq 7), (110, .iconst 3), (111, .goto 31), (114, .iload_n 0), (115, .bipush 8), (117, .if_icmp .eq 9), (120, .iload_n 0), (121, .bipush 9), (123, .if_icmp .ne 8), (126, .bipush 13), (128, .goto 14), (131, .iload_n 0), (132, .bipush 13), (134, .if_icmp .ne 7), (137, .iconst 5), (138, .goto 4), (141, .iconst 0), (142, .istore 8), (144, .iload 4), (146, .ifCond .eq 22), (149, .iload_n 0), (150, .ifCond .eq 14), (153, .iload_n 1), (154, .iload 7), (156, .iload 8), (158, .invokestatic 89), (161, .ifCond .eq 7), (164, .iconst 1), (165, .goto 4), (168, .iconst 0), (169, .ireturn)]
def fl_M_named : List (Nat × Nat × Nat × Nat) := []
def cb_M_named : List (Instr × Nat × Nat × Option Nat × am_F) := [(.invokestatic 89, 89, 3, none, f_M_in)]
def m_M_named : am_M := am_mk co_M_named fl_M_named (cb_M_named.map (fun z => z.2)) [] [] none 1
def f_M_named : am_F := am_mf m_M_named 3
theorem o_M_named : am_ok m_M_named := am_mk_ok (am_cb_ok (List.forall_mem_cons.mpr ⟨n_M_in, (fun _ h => absurd h List.not_mem_nil)⟩))
theorem n_M_named : am_mono f_M_named := am_mf_mono o_M_named
theorem g_M_named : ∀ x q, am_cal m_M_named x = some q → am_grow q.2.2 := am_mk_grow (am_cb_gr (List.forall_mem_cons.mpr ⟨h_M_in, (fun _ h => absurd h List.not_mem_nil)⟩))
theorem h_M_named : am_grow f_M_named := am_mf_grow g_M_named
def y_M_code : MethodName := ⟨"PatchedMachineModel", "code", "(IIII)Z"⟩
def co_M_code : List (Nat × Instr) := [(0, .iload_n 1), (1, .iconst 0), (2, .iconst 5), (3, .invokestatic 89), (6, .ifCond .eq 50), (9, .aload_n 0), (10, .getfield 46), (13, .iconst 4), (14, .iaload), (15, .iload_n 1), (16, .ishr), (17, .iconst 1), (18, .iand), (19, .ifCond .eq 37), (22, .aload_n 0), (23, .getfield 31), (26, .bipush 24), (28, .iload_n 1), (29, .iadd), (30, .iaload), (31, .bipush 14), (33, .if_icmp .eq 23), (36, .iload_n 2), (37, .iconst 0), (38, .bipush 16), (40, .invokestatic 89), (43, .ifCond .eq 13), (46, .iload_n 2), (47, .iload_n 3), (48, .iload 4), (50, .invokestatic 104), (53, .ifCond .ne 5), (56, .iconst 0), (57, .ireturn), (58, .bipush 14), (60, .bipush 24), (62, .iload_n 1), (63, .iadd), (64, .imul), (65, .aload_n 0), (66, .getfield 31), (69, .bipush 24), (71, .iload_n 1), (72, .iadd), (73, .iaload), (74, .iadd), (75, .istore 5), (77, .aload_n 0), (78, .getfield 34), (81, .iload 5), (83, .iload_n 2), (84, .iastore), (85, .aload_n 0), (86, .getfield 37), (89, .iload 5), (91, .iload_n 3), (92, .iastore), (93, .aload_n 0), (94, .getfield 40), (97, .iload 5), (99, .iload 4), (101, .iastore), (102, .aload_n 0), (103, .getfield 31), (106, .bipush 24), (108, .iload_n 1), (109, .iadd), (110, .dup2), (111, .iaload), (112, .iconst 1), (113, .iadd), (114, .iastore), (115, .iconst 1), (116, .ireturn)]
def fl_M_code : List (Nat × Nat × Nat × Nat) := [(46, 10, 12, 2), (31, 10, 7, 2), (34, 10, 8, 2), (37, 10, 9, 2), (40, 10, 10, 2)]
def cb_M_code : List (Instr × Nat × Nat × Option Nat × am_F) := [(.invokestatic 89, 89, 3, none, f_M_in), (.invokestatic 104, 104, 3, none, f_M_named)]
def m_M_code : am_M := am_mk co_M_code fl_M_code (cb_M_code.map (fun z => z.2)) [] [] none 1
def f_M_code : am_F := am_mf m_M_code 5
theorem o_M_code : am_ok m_M_code := am_mk_ok (am_cb_ok (List.forall_mem_cons.mpr ⟨n_M_in, (List.forall_mem_cons.mpr ⟨n_M_named, (fun _ h => absurd h List.not_mem_nil)⟩)⟩))
theorem n_M_code : am_mono f_M_code := am_mf_mono o_M_code
theorem g_M_code : ∀ x q, am_cal m_M_code x = some q → am_grow q.2.2 := am_mk_grow (am_cb_gr (List.forall_mem_cons.mpr ⟨h_M_in, (List.forall_mem_cons.mpr ⟨h_M_named, (fun _ h => absurd h List.not_mem_nil)⟩)⟩))
theorem h_M_code : am_grow f_M_code := am_mf_grow g_M_code
def y_M_copy : MethodName := ⟨"PatchedMachineModel", "copy", "(II)V"⟩
def co_M_copy : List (Nat × Instr) := [(0, .iconst 0), (1, .istore_n 3), (2, .iload_n 3), (3, .iconst 3), (4, .if_icmp .ge 110), (7, .aload_n 0), (8, .getfield 7), (11, .iconst 3), (12, .iload_n 2), (13, .imul), (14, .iload_n 3), (15, .iadd), (16, .aload_n 0), (17, .getfield 7), (20, .iconst 3), (21, .iload_n 1), (22, .imul), (23, .iload_n 3), (24, .iadd), (25, .iaload), (26, .iastore), (27, .iconst 0), (28, .istore 4), (30, .iload 4), (32, .iconst 4), (33, .if_icmp .ge 75), (36, .iconst 4), (37, .iconst 3), (38, .iload_n 1), (39, .imul), (40, .iload_n 3), (41, .iadd), (42, .imul), (43, .iload 4), (45, .iadd), (46, .istore 5), (48, .iconst 4), (49, .iconst 3), (50, .iload_n 2), (51, .imul), (52, .iload_n 3), (53, .iadd), (54, .imul), (55, .iload 4), (57, .iadd), (58, .istore 6), (60, .aload_n 0), (61, .getfield 13), (64, .iload 6), (66, .aload_n 0), (67, .getfield 13), (70, .iload 5), (72, .iaload), (73, .iastore), (74, .aload_n 0), (75, .getfield 16), (78, .iload 6), (80, .aload_n 0), (81, .getfield 16), (84, .iload 5), (86, .iaload), (87, .iastore), (88, .aload_n 0), (89, .getfield 19), (92, .iload 6), (94, .aload_n 0), (95, .getfield 19), (98, .iload 5), (100, .iaload), (101, .iastore), (102, .iinc 4 1), (105, .goto (-75)), (108, .iinc 3 1), (111, .goto (-109)), (114, .iconst 0), (115, .istore_n 3), (116, .iload_n 3), (117, .bipush 6), (119, .if_icmp .ge 175), (122, .bipush 6), (124, .iload_n 1), (125, .imul), (126, .iload_n 3), (127, .iadd), (128, .istore 4), (130, .bipush 6), (132, .iload_n 2), (133, .imul), (134, .iload_n 3), (135, .iadd), (136, .istore 5), (138, .aload_n 0), (139, .getfield 22), (142, .iload 5), (144, .aload_n 0), (145, .getfield 22), (148, .iload 4), (150, .iaload), (151, .iastore), (152, .aload_n 0), (153, .getfield 25), (156, .iload 5), (158, .aload_n 0), (159, .getfield 25), (162, .iload 4), (164, .iaload), (165, .iastore), (166, .aload_n 0), (167, .getfield 28), (170, .iload 5), (172, .aload_n 0), (173, .getfield 28), (176, .iload 4), (178, .iaload), (179, .iastore), (180, .aload_n 0), (181, .getfield 31), (184, .iload 5), (186, .aload_n 0), (187, .getfield 31), (190, .iload 4), (192, .iaload), (193, .iastore), (194, .iconst 0), (195, .istore 6), (197, .iload 6), (199, .bipush 14), (201, .if_icmp .ge 87), (204, .aload_n 0), (205, .getfield 34), (208, .bipush 14), (210, .iload 5), (212, .imul), (213, .iload 6), (215, .iadd), (216, .aload_n 0), (217, .getfield 34), (220, .bipush 14), (222, .iload 4), (224, .imul), (225, .iload 6), (227, .iadd), (228, .iaload), (229, .iastore), (230, .aload_n 0), (231, .getfield 37), (234, .bipush 14), (236, .iload 5), (238, .imul), (239, .iload 6), (241, .iadd), (242, .aload_n 0), (243, .getfield 37), (246, .bipush 14), (248, .iload 4), (250, .imul), (251, .iload 6), (253, .iadd), (254, .iaload), (255, .iastore), (256, .aload_n 0), (257, .getfield 40), (260, .bipush 14), (262, .iload 5), (264, .imul), (265, .iload 6), (267, .iadd), (268, .aload_n 0), (269, .getfield 40), (272, .bipush 14), (274, .iload 4), (276, .imul), (277, .iload 6), (279, .iadd), (280, .iaload), (281, .iastore), (282, .iinc 6 1), (285, .goto (-88)), (288, .iinc 3 1), (291, .goto (-175)), (294, .aload_n 0), (295, .getfield 43), (298, .iload_n 2), (299, .aload_n 0), (300, .getfield 43), (303, .iload_n 1), (304, .iaload), (305, .iastore), (306, .aload_n 0), (307, .getfield 46), (310, .iload_n 2), (311, .aload_n 0), (312, .getfield 46), (315, .iload_n 1), (316, .iaload), (317, .iastore), (318, .aload_n 0), (319, .getfield 49), (322, .iload_n 2), (323, .aload_n 0), (324, .getfield 49), (327, .iload_n 1), (328, .iaload), (329, .iastore), (330, .return_)]
def fl_M_copy : List (Nat × Nat × Nat × Nat) := [(7, 10, 0, 2), (13, 10, 1, 2), (16, 10, 2, 2), (19, 10, 3, 2), (22, 10, 4, 2), (25, 10, 5, 2), (28, 10, 6, 2), (31, 10, 7, 2), (34, 10, 8, 2), (37, 10, 9, 2), (40, 10, 10, 2), (43, 10, 11, 2), (46, 10, 12, 2), (49, 10, 13, 2)]
def cb_M_copy : List (Instr × Nat × Nat × Option Nat × am_F) := []
def m_M_copy : am_M := am_mk co_M_copy fl_M_copy (cb_M_copy.map (fun z => z.2)) [] [] none 2
def f_M_copy : am_F := am_mf m_M_copy 3
theorem o_M_copy : am_ok m_M_copy := am_mk_ok (am_cb_ok (fun _ h => absurd h List.not_mem_nil))
theorem n_M_copy : am_mono f_M_copy := am_mf_mono o_M_copy
theorem g_M_copy : ∀ x q, am_cal m_M_copy x = some q → am_grow q.2.2 := am_mk_grow (am_cb_gr (fun _ h => absurd h List.not_mem_nil))
theorem h_M_copy : am_grow f_M_copy := am_mf_grow g_M_copy
def y_M_renew : MethodName := ⟨"PatchedMachineModel", "renew", "()V"⟩
def co_M_renew : List (Nat × Instr) := [(0, .aload_n 0), (1, .aload_n 0), (2, .getfield 97), (5, .iconst 4), (6, .invokevirtual 107), (9, .aload_n 0), (10, .getfield 43), (13, .iconst 4), (14, .iconst 0), (15, .iastore), (16, .aload_n 0), (17, .getfield 46), (20, .iconst 4), (21, .iconst 0), (22, .iastore), (23, .return_)]
def fl_M_renew : List (Nat × Nat × Nat × Nat) := [(97, 10, 14, 0), (43, 10, 11, 2), (46, 10, 12, 2)]
def cb_M_renew : List (Instr × Nat × Nat × Option Nat × am_F) := [(.invokevirtual 107, 107, 3, (some 10), f_M_copy)]
def m_M_renew : am_M := am_mk co_M_renew fl_M_renew (cb_M_renew.map (fun z => z.2)) [] [] none 2
def f_M_renew : am_F := am_mf m_M_renew 1
theorem o_M_renew : am_ok m_M_renew := am_mk_ok (am_cb_ok (List.forall_mem_cons.mpr ⟨n_M_copy, (fun _ h => absurd h List.not_mem_nil)⟩))
theorem n_M_renew : am_mono f_M_renew := am_mf_mono o_M_renew
theorem g_M_renew : ∀ x q, am_cal m_M_renew x = some q → am_grow q.2.2 := am_mk_grow (am_cb_gr (List.forall_mem_cons.mpr ⟨h_M_copy, (fun _ h => absurd h List.not_mem_nil)⟩))
theorem h_M_renew : am_grow f_M_renew := am_mf_grow g_M_renew
def y_M_drop : MethodName := ⟨"PatchedMachineModel", "drop", "()Z"⟩
def co_M_drop : List (Nat × Instr) := [(0, .aload_n 0), (1, .getfield 43), (4, .iconst 4), (5, .iaload), (6, .ifCond .ne 14), (9, .aload_n 0), (10, .getfield 46), (13, .iconst 4), (14, .iaload), (15, .ifCond .ne 5), (18, .iconst 0), (19, .ireturn), (20, .aload_n 0), (21, .invokevirtual 111), (24, .iconst 1), (25, .ireturn)]
def fl_M_drop : List (Nat × Nat × Nat × Nat) := [(43, 10, 11, 2), (46, 10, 12, 2)]
def cb_M_drop : List (Instr × Nat × Nat × Option Nat × am_F) := [(.invokevirtual 111, 111, 1, (some 10), f_M_renew)]
def m_M_drop : am_M := am_mk co_M_drop fl_M_drop (cb_M_drop.map (fun z => z.2)) [] [] none 1
def f_M_drop : am_F := am_mf m_M_drop 1
theorem o_M_drop : am_ok m_M_drop := am_mk_ok (am_cb_ok (List.forall_mem_cons.mpr ⟨n_M_renew, (fun _ h => absurd h List.not_mem_nil)⟩))
theorem n_M_drop : am_mono f_M_drop := am_mf_mono o_M_drop
theorem g_M_drop : ∀ x q, am_cal m_M_drop x = some q → am_grow q.2.2 := am_mk_grow (am_cb_gr (List.forall_mem_cons.mpr ⟨h_M_renew, (fun _ h => absurd h List.not_mem_nil)⟩))
theorem h_M_drop : am_grow f_M_drop := am_mf_grow g_M_drop
def y_M_puts : MethodName := ⟨"PatchedMachineModel", "puts", "(I)Z"⟩
def co_M_puts : List (Nat × Instr) := [(0, .aload_n 0), (1, .getfield 52), (4, .aload_n 0), (5, .getfield 114), (8, .iload_n 1), (9, .iastore), (10, .aload_n 0), (11, .dup), (12, .getfield 114), (15, .iconst 1), (16, .iadd), (17, .putfield 114), (20, .aload_n 0), (21, .getfield 114), (24, .bipush 6), (26, .if_icmp .gt 7), (29, .iconst 1), (30, .goto 4), (33, .iconst 0), (34, .ireturn)]
def fl_M_puts : List (Nat × Nat × Nat × Nat) := [(52, 10, 17, 2), (114, 10, 18, 0)]
def cb_M_puts : List (Instr × Nat × Nat × Option Nat × am_F) := []
def m_M_puts : am_M := am_mk co_M_puts fl_M_puts (cb_M_puts.map (fun z => z.2)) [] [] none 1
def f_M_puts : am_F := am_mf m_M_puts 2
theorem o_M_puts : am_ok m_M_puts := am_mk_ok (am_cb_ok (fun _ h => absurd h List.not_mem_nil))
theorem n_M_puts : am_mono f_M_puts := am_mf_mono o_M_puts
theorem g_M_puts : ∀ x q, am_cal m_M_puts x = some q → am_grow q.2.2 := am_mk_grow (am_cb_gr (fun _ h => absurd h List.not_mem_nil))
theorem h_M_puts : am_grow f_M_puts := am_mf_grow g_M_puts
def y_M_local : MethodName := ⟨"PatchedMachineModel", "local", "(II)I"⟩
def co_M_local : List (Nat × Instr) := [(0, .aload_n 0), (1, .getfield 25), (4, .iload_n 1), (5, .iaload), (6, .iconst 2), (7, .iload_n 2), (8, .imul), (9, .ishr), (10, .iconst 3), (11, .iand), (12, .ireturn)]
def fl_M_local : List (Nat × Nat × Nat × Nat) := [(25, 10, 5, 2)]
def cb_M_local : List (Instr × Nat × Nat × Option Nat × am_F) := []
def m_M_local : am_M := am_mk co_M_local fl_M_local (cb_M_local.map (fun z => z.2)) [] [] none 0
def f_M_local : am_F := am_mf m_M_local 3
theorem o_M_local : am_ok m_M_local := am_mk_ok (am_cb_ok (fun _ h => absurd h List.not_mem_nil))
theorem n_M_local : am_mono f_M_local := am_mf_mono o_M_local
theorem g_M_local : ∀ x q, am_cal m_M_local x = some q → am_grow q.2.2 := am_mk_grow (am_cb_gr (fun _ h => absurd h List.not_mem_nil))
theorem h_M_local : am_grow f_M_local := am_mf_grow g_M_local
def y_M_takes : MethodName := ⟨"PatchedMachineModel", "takes", "(I)Z"⟩
def co_M_takes : List (Nat × Instr) := [(0, .aload_n 0), (1, .getfield 114), (4, .ifCond .eq 18), (7, .aload_n 0), (8, .getfield 52), (11, .aload_n 0), (12, .getfield 114), (15, .iconst 1), (16, .isub), (17, .iaload), (18, .iload_n 1), (19, .if_icmp .eq 5), (22, .iconst 0), (23, .ireturn), (24, .aload_n 0), (25, .dup), (26, .getfield 114), (29, .iconst 1), (30, .isub), (31, .putfield 114), (34, .iconst 1), (35, .ireturn)]
def fl_M_takes : List (Nat × Nat × Nat × Nat) := [(114, 10, 18, 0), (52, 10, 17, 2)]
def cb_M_takes : List (Instr × Nat × Nat × Option Nat × am_F) := []
def m_M_takes : am_M := am_mk co_M_takes fl_M_takes (cb_M_takes.map (fun z => z.2)) [] [] none 1
def f_M_takes : am_F := am_mf m_M_takes 2
theorem o_M_takes : am_ok m_M_takes := am_mk_ok (am_cb_ok (fun _ h => absurd h List.not_mem_nil))
theorem n_M_takes : am_mono f_M_takes := am_mf_mono o_M_takes
theorem g_M_takes : ∀ x q, am_cal m_M_takes x = some q → am_grow q.2.2 := am_mk_grow (am_cb_gr (fun _ h => absurd h List.not_mem_nil))
theorem h_M_takes : am_grow f_M_takes := am_mf_grow g_M_takes
def y_M_member : MethodName := ⟨"PatchedMachineModel", "member", "(III)Z"⟩
def co_M_member : List (Nat × Instr) := [(0, .aload_n 0), (1, .iconst 4), (2, .iload_n 2), (3, .iload_n 3), (4, .invokevirtual 93), (7, .istore 4), (9, .iload 4), (11, .ifCond .ge 5), (14, .iconst 0), (15, .ireturn), (16, .aload_n 0), (17, .iconst 4), (18, .iload_n 2), (19, .iload 4), (21, .invokevirtual 101), (24, .istore 5), (26, .iload_n 1), (27, .bipush 11), (29, .if_icmp .ne 28), (32, .aload_n 0), (33, .iload_n 2), (34, .invokevirtual 121), (37, .ifCond .eq 16), (40, .aload_n 0), (41, .iload 5), (43, .invokevirtual 125), (46, .ifCond .eq 7), (49, .iconst 1), (50, .goto 29), (53, .iconst 0), (54, .goto 25), (57, .aload_n 0), (58, .iload 5), (60, .invokevirtual 121), (63, .ifCond .eq 15), (66, .aload_n 0), (67, .iload_n 2), (68, .invokevirtual 121), (71, .ifCond .eq 7), (74, .iconst 1), (75, .goto 4), (78, .iconst 0), (79, .ireturn)]
def fl_M_member : List (Nat × Nat × Nat × Nat) := []
def cb_M_member : List (Instr × Nat × Nat × Option Nat × am_F) := [(.invokevirtual 93, 93, 4, (some 10), f_M_find), (.invokevirtual 101, 101, 4, (some 10), f_M_typeOf), (.invokevirtual 121, 121, 2, (some 10), f_M_takes), (.invokevirtual 125, 125, 2, (some 10), f_M_puts)]
def m_M_member : am_M := am_mk co_M_member fl_M_member (cb_M_member.map (fun z => z.2)) [] [] none 1
def f_M_member : am_F := am_mf m_M_member 4
theorem o_M_member : am_ok m_M_member := am_mk_ok (am_cb_ok (List.forall_mem_cons.mpr ⟨n_M_find, (List.forall_mem_cons.mpr ⟨n_M_typeOf, (List.forall_mem_cons.mpr ⟨n_M_takes, (List.forall_mem_cons.mpr ⟨n_M_puts, (fun _ h => absurd h List.not_mem_nil)⟩)⟩)⟩)⟩))
theorem n_M_member : am_mono f_M_member := am_mf_mono o_M_member
theorem g_M_member : ∀ x q, am_cal m_M_member x = some q → am_grow q.2.2 := am_mk_grow (am_cb_gr (List.forall_mem_cons.mpr ⟨h_M_find, (List.forall_mem_cons.mpr ⟨h_M_typeOf, (List.forall_mem_cons.mpr ⟨h_M_takes, (List.forall_mem_cons.mpr ⟨h_M_puts, (fun _ h => absurd h List.not_mem_nil)⟩)⟩)⟩)⟩))
theorem h_M_member : am_grow f_M_member := am_mf_grow g_M_member
def y_M_passes : MethodName := ⟨"PatchedMachineModel", "passes", "(I)Z"⟩
def co_M_passes : List (Nat × Instr) := [(0, .bipush 24), (2, .iload_n 1), (3, .iadd), (4, .istore_n 2), (5, .aload_n 0), (6, .getfield 31), (9, .iload_n 2), (10, .iaload), (11, .ifCond .ne 5), (14, .iconst 0), (15, .ireturn), (16, .aload_n 0), (17, .getfield 22), (20, .iload_n 2), (21, .iaload), (22, .iconst 1), (23, .isub), (24, .istore_n 3), (25, .iload_n 3), (26, .ifCond .lt 24), (29, .aload_n 0), (30, .aload_n 0), (31, .iload_n 2), (32, .iload_n 3), (33, .invokevirtual 117), (36, .invokevirtual 121), (39, .ifCond .ne 5), (42, .iconst 0), (43, .ireturn), (44, .iinc 3 (-1)), (47, .goto (-22)), (50, .aload_n 0), (51, .aload_n 0), (52, .getfield 28), (55, .iload_n 2), (56, .iaload), (57, .invokevirtual 125), (60, .ireturn)]
def fl_M_passes : List (Nat × Nat × Nat × Nat) := [(31, 10, 7, 2), (22, 10, 4, 2), (28, 10, 6, 2)]
def cb_M_passes : List (Instr × Nat × Nat × Option Nat × am_F) := [(.invokevirtual 117, 117, 3, (some 10), f_M_local), (.invokevirtual 121, 121, 2, (some 10), f_M_takes), (.invokevirtual 125, 125, 2, (some 10), f_M_puts)]
def m_M_passes : am_M := am_mk co_M_passes fl_M_passes (cb_M_passes.map (fun z => z.2)) [] [] none 1
def f_M_passes : am_F := am_mf m_M_passes 2
theorem o_M_passes : am_ok m_M_passes := am_mk_ok (am_cb_ok (List.forall_mem_cons.mpr ⟨n_M_local, (List.forall_mem_cons.mpr ⟨n_M_takes, (List.forall_mem_cons.mpr ⟨n_M_puts, (fun _ h => absurd h List.not_mem_nil)⟩)⟩)⟩))
theorem n_M_passes : am_mono f_M_passes := am_mf_mono o_M_passes
theorem g_M_passes : ∀ x q, am_cal m_M_passes x = some q → am_grow q.2.2 := am_mk_grow (am_cb_gr (List.forall_mem_cons.mpr ⟨h_M_local, (List.forall_mem_cons.mpr ⟨h_M_takes, (List.forall_mem_cons.mpr ⟨h_M_puts, (fun _ h => absurd h List.not_mem_nil)⟩)⟩)⟩))
theorem h_M_passes : am_grow f_M_passes := am_mf_grow g_M_passes
def y_M_goes : MethodName := ⟨"PatchedMachineModel", "goes", "(II)Z"⟩
def co_M_goes : List (Nat × Instr) := [(0, .aload_n 0), (1, .getfield 34), (4, .bipush 14), (6, .iload_n 1), (7, .imul), (8, .iload_n 2), (9, .iadd), (10, .iaload), (11, .istore_n 3), (12, .aload_n 0), (13, .getfield 37), (16, .bipush 14), (18, .iload_n 1), (19, .imul), (20, .iload_n 2), (21, .iadd), (22, .iaload), (23, .istore 4), (25, .iload_n 3), (26, .ifCond .eq 14), (29, .iload_n 3), (30, .iconst 1), (31, .if_icmp .eq 9), (34, .iload_n 3), (35, .bipush 10), (37, .if_icmp .ne 18), (40, .aload_n 0), (41, .iload_n 3), (42, .ifCond .ne 7), (45, .iconst 0), (46, .goto 5), (49, .iload 4), (51, .invokevirtual 125), (54, .ireturn), (55, .iload_n 3), (56, .iconst 2), (57, .if_icmp .ne 15), (60, .aload_n 0), (61, .aload_n 0), (62, .iload_n 1), (63, .iload 4), (65, .invokevirtual 117), (68, .invokevirtual 125), (71, .ireturn), (72, .iload_n 3), (73, .iconst 3), (74, .if_icmp .ne 15), (77, .aload_n 0), (78, .aload_n 0), (79, .iload_n 1), (80, .iload 4), (82, .invokevirtual 117), (85, .invokevirtual 121), (88, .ireturn), (89, .iload_n 3), (90, .bipush 7), (92, .if_icmp .gt 33), (95, .aload_n 0), (96, .iconst 0), (97, .invokevirtual 121), (100, .ifCond .eq 23), (103, .aload_n 0), (104, .iconst 0), (105, .invokevirtual 121), (108, .ifCond .eq 15), (111, .aload_n 0), (112, .iconst 0), (113, .invokevirtual 125), (116, .ifCond .eq 7), (119, .iconst 1), (120, .goto 4), (123, .iconst 0), (124, .ireturn), (125, .iload_n 3), (126, .bipush 8), (128, .if_icmp .ne 27), (131, .aload_n 0), (132, .getfield 114), (135, .ifCond .ne 18), (138, .iload 4), (140, .aload_n 0), (141, .getfield 31), (144, .iload_n 1), (145, .iaload), (146, .if_icmp .ge 7), (149, .iconst 1), (150, .goto 4), (153, .iconst 0), (154, .ireturn), (155, .iload_n 3), (156, .bipush 9), (158, .if_icmp .ne 35), (161, .aload_n 0), (162, .iconst 0), (163, .invokevirtual 121), (166, .ifCond .eq 25), (169, .aload_n 0), (170, .getfield 114), (173, .ifCond .ne 18), (176, .iload 4), (178, .aload_n 0), (179, .getfield 31), (182, .iload_n 1), (183, .iaload), (184, .if_icmp .ge 7), (187, .iconst 1), (188, .goto 4), (191, .iconst 0), (192, .ireturn), (193, .iload_n 3), (194, .bipush 11), (196, .if_icmp .eq 9), (199, .iload_n 3), (200, .bipush 12), (202, .if_icmp .ne 22), (205, .aload_n 0), (206, .iload_n 3), (207, .iload 4), (209, .aload_n 0), (210, .getfield 40), (213, .bipush 14), (215, .iload_n 1), (216, .imul), (217, .iload_n 2), (218, .iadd), (219, .iaload), (220, .invokevirtual 128), (223, .ireturn), (224, .iload_n 3), (225, .bipush 13), (227, .if_icmp .ne 10), (230, .aload_n 0), (231, .iload 4), (233, .invokevirtual 131), (236, .ireturn), (237, .iload_n 3), (238, .bipush 14), (240, .if_icmp .ne 29), (243, .aload_n 0), (244, .aload_n 0), (245, .getfield 28), (248, .iload_n 1), (249, .iaload), (250, .invokevirtual 121), (253, .ifCond .eq 14), (256, .aload_n 0), (257, .getfield 114), (260, .ifCond .ne 7), (263, .iconst 1), (264, .goto 4), (267, .iconst 0), (268, .ireturn), (269, .iload_n 3), (270, .bipush 15), (272, .if_icmp .ne 37), (275, .aload_n 0), (276, .iload 4), (278, .invokevirtual 121), (281, .ifCond .eq 24), (284, .aload_n 0), (285, .iload 4), (287, .invokevirtual 121), (290, .ifCond .eq 15), (293, .aload_n 0), (294, .iconst 0), (295, .invokevirtual 125), (298, .ifCond .eq 7), (301, .iconst 1), (302, .goto 12), (305, .iconst 0), (306, .goto 8), (309, .aload_n 0), (310, .iconst 0), (311, .invokevirtual 121), (314, .ireturn)]
def fl_M_goes : List (Nat × Nat × Nat × Nat) := [(34, 10, 8, 2), (37, 10, 9, 2), (114, 10, 18, 0), (31, 10, 7, 2), (40, 10, 10, 2), (28, 10, 6, 2)]
def cb_M_goes : List (Instr × Nat × Nat × Option Nat × am_F) := [(.invokevirtual 125, 125, 2, (some 10), f_M_puts), (.invokevirtual 117, 117, 3, (some 10), f_M_local), (.invokevirtual 121, 121, 2, (some 10), f_M_takes), (.invokevirtual 128, 128, 4, (some 10), f_M_member), (.invokevirtual 131, 131, 2, (some 10), f_M_passes)]
def m_M_goes : am_M := am_mk co_M_goes fl_M_goes (cb_M_goes.map (fun z => z.2)) [] [] none 1
def f_M_goes : am_F := am_mf m_M_goes 3
theorem o_M_goes : am_ok m_M_goes := am_mk_ok (am_cb_ok (List.forall_mem_cons.mpr ⟨n_M_puts, (List.forall_mem_cons.mpr ⟨n_M_local, (List.forall_mem_cons.mpr ⟨n_M_takes, (List.forall_mem_cons.mpr ⟨n_M_member, (List.forall_mem_cons.mpr ⟨n_M_passes, (fun _ h => absurd h List.not_mem_nil)⟩)⟩)⟩)⟩)⟩))
theorem n_M_goes : am_mono f_M_goes := am_mf_mono o_M_goes
theorem g_M_goes : ∀ x q, am_cal m_M_goes x = some q → am_grow q.2.2 := am_mk_grow (am_cb_gr (List.forall_mem_cons.mpr ⟨h_M_puts, (List.forall_mem_cons.mpr ⟨h_M_local, (List.forall_mem_cons.mpr ⟨h_M_takes, (List.forall_mem_cons.mpr ⟨h_M_member, (List.forall_mem_cons.mpr ⟨h_M_passes, (fun _ h => absurd h List.not_mem_nil)⟩)⟩)⟩)⟩)⟩))
theorem h_M_goes : am_grow f_M_goes := am_mf_grow g_M_goes
def y_M_aimedAt : MethodName := ⟨"PatchedMachineModel", "aimedAt", "(II)Z"⟩
def co_M_aimedAt : List (Nat × Instr) := [(0, .iconst 0), (1, .istore_n 3), (2, .iconst 0), (3, .istore 4), (5, .iload 4), (7, .aload_n 0), (8, .getfield 31), (11, .iload_n 1), (12, .iaload), (13, .if_icmp .ge 63), (16, .aload_n 0), (17, .getfield 34), (20, .bipush 14), (22, .iload_n 1), (23, .imul), (24, .iload 4), (26, .iadd), (27, .iaload), (28, .istore 5), (30, .iload_n 3), (31, .ifCond .ne 33), (34, .iload 5), (36, .bipush 8), (38, .if_icmp .eq 10), (41, .iload 5), (43, .bipush 9), (45, .if_icmp .ne 23), (48, .aload_n 0), (49, .getfield 37), (52, .bipush 14), (54, .iload_n 1), (55, .imul), (56, .iload 4), (58, .iadd), (59, .iaload), (60, .iload_n 2), (61, .if_icmp .ne 7), (64, .iconst 1), (65, .goto 4), (68, .iconst 0), (69, .istore_n 3), (70, .iinc 4 1), (73, .goto (-68)), (76, .iload_n 3), (77, .ireturn)]
def fl_M_aimedAt : List (Nat × Nat × Nat × Nat) := [(31, 10, 7, 2), (34, 10, 8, 2), (37, 10, 9, 2)]
def cb_M_aimedAt : List (Instr × Nat × Nat × Option Nat × am_F) := []
def m_M_aimedAt : am_M := am_mk co_M_aimedAt fl_M_aimedAt (cb_M_aimedAt.map (fun z => z.2)) [] [] none 1
def f_M_aimedAt : am_F := am_mf m_M_aimedAt 3
theorem o_M_aimedAt : am_ok m_M_aimedAt := am_mk_ok (am_cb_ok (fun _ h => absurd h List.not_mem_nil))
theorem n_M_aimedAt : am_mono f_M_aimedAt := am_mf_mono o_M_aimedAt
theorem g_M_aimedAt : ∀ x q, am_cal m_M_aimedAt x = some q → am_grow q.2.2 := am_mk_grow (am_cb_gr (fun _ h => absurd h List.not_mem_nil))
theorem h_M_aimedAt : am_grow f_M_aimedAt := am_mf_grow g_M_aimedAt
def y_M_bad : MethodName := ⟨"PatchedMachineModel", "bad", "(II)Z"⟩
def co_M_bad : List (Nat × Instr) := [(0, .aload_n 0), (1, .iconst 0), (2, .putfield 114), (5, .iconst 0), (6, .istore_n 3), (7, .iload_n 3), (8, .iload_n 2), (9, .if_icmp .ge 16), (12, .aload_n 0), (13, .iload_n 1), (14, .iload_n 3), (15, .invokevirtual 134), (18, .pop), (19, .iinc 3 1), (22, .goto (-15)), (25, .aload_n 0), (26, .getfield 114), (29, .ifCond .le 12), (32, .aload_n 0), (33, .iload_n 1), (34, .iload_n 2), (35, .invokevirtual 138), (38, .ifCond .ne 12), (41, .aload_n 0), (42, .iload_n 1), (43, .iload_n 2), (44, .invokevirtual 134), (47, .ifCond .ne 5), (50, .iconst 1), (51, .ireturn), (52, .aload_n 0), (53, .getfield 34), (56, .bipush 14), (58, .iload_n 1), (59, .imul), (60, .iload_n 2), (61, .iadd), (62, .iaload), (63, .istore_n 3), (64, .iload_n 2), (65, .aload_n 0), (66, .getfield 31), (69, .iload_n 1), (70, .iaload), (71, .iconst 1), (72, .isub), (73, .if_icmp .ne 19), (76, .iload_n 3), (77, .bipush 8), (79, .if_icmp .eq 13), (82, .iload_n 3), (83, .bipush 14), (85, .if_icmp .eq 7), (88, .iconst 1), (89, .goto 4), (92, .iconst 0), (93, .ireturn)]
def fl_M_bad : List (Nat × Nat × Nat × Nat) := [(114, 10, 18, 0), (34, 10, 8, 2), (31, 10, 7, 2)]
def cb_M_bad : List (Instr × Nat × Nat × Option Nat × am_F) := [(.invokevirtual 134, 134, 3, (some 10), f_M_goes), (.invokevirtual 138, 138, 3, (some 10), f_M_aimedAt)]
def m_M_bad : am_M := am_mk co_M_bad fl_M_bad (cb_M_bad.map (fun z => z.2)) [] [] none 1
def f_M_bad : am_F := am_mf m_M_bad 3
theorem o_M_bad : am_ok m_M_bad := am_mk_ok (am_cb_ok (List.forall_mem_cons.mpr ⟨n_M_goes, (List.forall_mem_cons.mpr ⟨n_M_aimedAt, (fun _ h => absurd h List.not_mem_nil)⟩)⟩))
theorem n_M_bad : am_mono f_M_bad := am_mf_mono o_M_bad
theorem g_M_bad : ∀ x q, am_cal m_M_bad x = some q → am_grow q.2.2 := am_mk_grow (am_cb_gr (List.forall_mem_cons.mpr ⟨h_M_goes, (List.forall_mem_cons.mpr ⟨h_M_aimedAt, (fun _ h => absurd h List.not_mem_nil)⟩)⟩))
theorem h_M_bad : am_grow f_M_bad := am_mf_grow g_M_bad
def y_M_wrong : MethodName := ⟨"PatchedMachineModel", "wrong", "()I"⟩
def co_M_wrong : List (Nat × Instr) := [(0, .iconst 0), (1, .istore_n 1), (2, .iload_n 1), (3, .bipush 6), (5, .if_icmp .ge 49), (8, .iconst 0), (9, .istore_n 2), (10, .iload_n 2), (11, .aload_n 0), (12, .getfield 31), (15, .bipush 24), (17, .iload_n 1), (18, .iadd), (19, .iaload), (20, .if_icmp .ge 28), (23, .aload_n 0), (24, .bipush 24), (26, .iload_n 1), (27, .iadd), (28, .iload_n 2), (29, .invokevirtual 141), (32, .ifCond .eq 10), (35, .bipush 100), (37, .iload_n 1), (38, .imul), (39, .iload_n 2), (40, .iadd), (41, .ireturn), (42, .iinc 2 1), (45, .goto (-35)), (48, .iinc 1 1), (51, .goto (-49)), (54, .iconst (-1)), (55, .ireturn)]
def fl_M_wrong : List (Nat × Nat × Nat × Nat) := [(31, 10, 7, 2)]
def cb_M_wrong : List (Instr × Nat × Nat × Option Nat × am_F) := [(.invokevirtual 141, 141, 3, (some 10), f_M_bad)]
def m_M_wrong : am_M := am_mk co_M_wrong fl_M_wrong (cb_M_wrong.map (fun z => z.2)) [] [] none 0
def f_M_wrong : am_F := am_mf m_M_wrong 1
theorem o_M_wrong : am_ok m_M_wrong := am_mk_ok (am_cb_ok (List.forall_mem_cons.mpr ⟨n_M_bad, (fun _ h => absurd h List.not_mem_nil)⟩))
theorem n_M_wrong : am_mono f_M_wrong := am_mf_mono o_M_wrong
theorem g_M_wrong : ∀ x q, am_cal m_M_wrong x = some q → am_grow q.2.2 := am_mk_grow (am_cb_gr (List.forall_mem_cons.mpr ⟨h_M_bad, (fun _ h => absurd h List.not_mem_nil)⟩))
theorem h_M_wrong : am_grow f_M_wrong := am_mf_grow g_M_wrong
def y_M_otherHead : MethodName := ⟨"PatchedMachineModel", "otherHead", "(I)Z"⟩
def co_M_otherHead : List (Nat × Instr) := [(0, .bipush 6), (2, .aload_n 0), (3, .getfield 97), (6, .imul), (7, .iload_n 1), (8, .iadd), (9, .istore_n 2), (10, .bipush 24), (12, .iload_n 1), (13, .iadd), (14, .istore_n 3), (15, .aload_n 0), (16, .getfield 22), (19, .iload_n 2), (20, .iaload), (21, .aload_n 0), (22, .getfield 22), (25, .iload_n 3), (26, .iaload), (27, .if_icmp .ne 18), (30, .aload_n 0), (31, .getfield 28), (34, .iload_n 2), (35, .iaload), (36, .aload_n 0), (37, .getfield 28), (40, .iload_n 3), (41, .iaload), (42, .if_icmp .eq 7), (45, .iconst 1), (46, .goto 4), (49, .iconst 0), (50, .istore 4), (52, .iconst 0), (53, .istore 5), (55, .iload 5), (57, .aload_n 0), (58, .getfield 22), (61, .iload_n 2), (62, .iaload), (63, .if_icmp .ge 38), (66, .iload 4), (68, .ifCond .ne 20), (71, .aload_n 0), (72, .iload_n 2), (73, .iload 5), (75, .invokevirtual 117), (78, .aload_n 0), (79, .iload_n 3), (80, .iload 5), (82, .invokevirtual 117), (85, .if_icmp .eq 7), (88, .iconst 1), (89, .goto 4), (92, .iconst 0), (93, .istore 4), (95, .iinc 5 1), (98, .goto (-43)), (101, .iload 4), (103, .ireturn)]
def fl_M_otherHead : List (Nat × Nat × Nat × Nat) := [(97, 10, 14, 0), (22, 10, 4, 2), (28, 10, 6, 2)]
def cb_M_otherHead : List (Instr × Nat × Nat × Option Nat × am_F) := [(.invokevirtual 117, 117, 3, (some 10), f_M_local)]
def m_M_otherHead : am_M := am_mk co_M_otherHead fl_M_otherHead (cb_M_otherHead.map (fun z => z.2)) [] [] none 1
def f_M_otherHead : am_F := am_mf m_M_otherHead 2
theorem o_M_otherHead : am_ok m_M_otherHead := am_mk_ok (am_cb_ok (List.forall_mem_cons.mpr ⟨n_M_local, (fun _ h => absurd h List.not_mem_nil)⟩))
theorem n_M_otherHead : am_mono f_M_otherHead := am_mf_mono o_M_otherHead
theorem g_M_otherHead : ∀ x q, am_cal m_M_otherHead x = some q → am_grow q.2.2 := am_mk_grow (am_cb_gr (List.forall_mem_cons.mpr ⟨h_M_local, (fun _ h => absurd h List.not_mem_nil)⟩))
theorem h_M_otherHead : am_grow f_M_otherHead := am_mf_grow g_M_otherHead
def y_M_restrictedBy : MethodName := ⟨"PatchedMachineModel", "restrictedBy", "()I"⟩
def co_M_restrictedBy : List (Nat × Instr) := [(0, .aload_n 0), (1, .getfield 46), (4, .iconst 4), (5, .iaload), (6, .istore_n 1), (7, .iconst 0), (8, .istore_n 2), (9, .iload_n 2), (10, .bipush 6), (12, .if_icmp .ge 171), (15, .bipush 6), (17, .aload_n 0), (18, .getfield 97), (21, .imul), (22, .iload_n 2), (23, .iadd), (24, .istore_n 3), (25, .iconst 0), (26, .istore 4), (28, .iload 4), (30, .aload_n 0), (31, .getfield 31), (34, .iload_n 3), (35, .iaload), (36, .if_icmp .ge 141), (39, .aload_n 0), (40, .getfield 34), (43, .bipush 14), (45, .iload_n 3), (46, .imul), (47, .iload 4), (49, .iadd), (50, .iaload), (51, .istore 5), (53, .iload 5), (55, .bipush 10), (57, .if_icmp .eq 17), (60, .iload 5), (62, .bipush 11), (64, .if_icmp .eq 10), (67, .iload 5), (69, .bipush 12), (71, .if_icmp .ne 7), (74, .iconst 1), (75, .goto 4), (78, .iconst 0), (79, .istore 6), (81, .iload 6), (83, .ifCond .eq 32), (86, .aload_n 0), (87, .getfield 43), (90, .iconst 4), (91, .iaload), (92, .aload_n 0), (93, .getfield 37), (96, .bipush 14), (98, .iload_n 3), (99, .imul), (100, .iload 4), (102, .iadd), (103, .iaload), (104, .ishr), (105, .iconst 1), (106, .iand), (107, .iconst 1), (108, .if_icmp .ne 7), (111, .iconst 1), (112, .goto 4), (115, .iconst 0), (116, .istore 7), (118, .iload 5), (120, .bipush 13), (122, .if_icmp .ne 26), (125, .aload_n 0), (126, .aload_n 0), (127, .getfield 37), (130, .bipush 14), (132, .iload_n 3), (133, .imul), (134, .iload 4), (136, .iadd), (137, .iaload), (138, .invokevirtual 144), (141, .ifCond .eq 7), (144, .iconst 1), (145, .goto 4), (148, .iconst 0), (149, .istore 8), (151, .iload 7), (153, .ifCond .ne 8), (156, .iload 8), (158, .ifCond .eq 11), (161, .iload_n 1), (162, .iconst 1), (163, .iload_n 2), (164, .ishl), (165, .ior), (166, .goto 4), (169, .iload_n 1), (170, .istore_n 1), (171, .iinc 4 1), (174, .goto (-146)), (177, .iinc 2 1), (180, .goto (-171)), (183, .iload_n 1), (184, .ireturn)]
def fl_M_restrictedBy : List (Nat × Nat × Nat × Nat) := [(46, 10, 12, 2), (97, 10, 14, 0), (31, 10, 7, 2), (34, 10, 8, 2), (43, 10, 11, 2), (37, 10, 9, 2)]
def cb_M_restrictedBy : List (Instr × Nat × Nat × Option Nat × am_F) := [(.invokevirtual 144, 144, 2, (some 10), f_M_otherHead)]
def m_M_restrictedBy : am_M := am_mk co_M_restrictedBy fl_M_restrictedBy (cb_M_restrictedBy.map (fun z => z.2)) [] [] none 0
def f_M_restrictedBy : am_F := am_mf m_M_restrictedBy 1
theorem o_M_restrictedBy : am_ok m_M_restrictedBy := am_mk_ok (am_cb_ok (List.forall_mem_cons.mpr ⟨n_M_otherHead, (fun _ h => absurd h List.not_mem_nil)⟩))
theorem n_M_restrictedBy : am_mono f_M_restrictedBy := am_mf_mono o_M_restrictedBy
theorem g_M_restrictedBy : ∀ x q, am_cal m_M_restrictedBy x = some q → am_grow q.2.2 := am_mk_grow (am_cb_gr (List.forall_mem_cons.mpr ⟨h_M_otherHead, (fun _ h => absurd h List.not_mem_nil)⟩))
theorem h_M_restrictedBy : am_grow f_M_restrictedBy := am_mf_grow g_M_restrictedBy
def y_M_free : MethodName := ⟨"PatchedMachineModel", "free", "()Z"⟩
def co_M_free : List (Nat × Instr) := [(0, .iconst 1), (1, .istore_n 1), (2, .iconst 0), (3, .istore_n 2), (4, .iload_n 2), (5, .aload_n 0), (6, .getfield 157), (9, .if_icmp .ge 37), (12, .iload_n 1), (13, .ifCond .eq 25), (16, .aload_n 0), (17, .getfield 49), (20, .iconst 1), (21, .iaload), (22, .aload_n 0), (23, .getfield 55), (26, .iload_n 2), (27, .iaload), (28, .ishr), (29, .iconst 1), (30, .iand), (31, .ifCond .ne 7), (34, .iconst 1), (35, .goto 4), (38, .iconst 0), (39, .istore_n 1), (40, .iinc 2 1), (43, .goto (-39)), (46, .iload_n 1), (47, .ireturn)]
def fl_M_free : List (Nat × Nat × Nat × Nat) := [(157, 10, 21, 0), (49, 10, 13, 2), (55, 10, 22, 2)]
def cb_M_free : List (Instr × Nat × Nat × Option Nat × am_F) := []
def m_M_free : am_M := am_mk co_M_free fl_M_free (cb_M_free.map (fun z => z.2)) [] [] none 1
def f_M_free : am_F := am_mf m_M_free 1
theorem o_M_free : am_ok m_M_free := am_mk_ok (am_cb_ok (fun _ h => absurd h List.not_mem_nil))
theorem n_M_free : am_mono f_M_free := am_mf_mono o_M_free
theorem g_M_free : ∀ x q, am_cal m_M_free x = some q → am_grow q.2.2 := am_mk_grow (am_cb_gr (fun _ h => absurd h List.not_mem_nil))
theorem h_M_free : am_grow f_M_free := am_mf_grow g_M_free
def y_M_collect : MethodName := ⟨"PatchedMachineModel", "collect", "()V"⟩
def co_M_collect : List (Nat × Instr) := [(0, .iconst 0), (1, .istore_n 1), (2, .iload_n 1), (3, .bipush 16), (5, .if_icmp .gt 16), (8, .aload_n 0), (9, .getfield 79), (12, .iload_n 1), (13, .iconst 0), (14, .bastore), (15, .iinc 1 1), (18, .goto (-16)), (21, .iconst 0), (22, .istore_n 1), (23, .iload_n 1), (24, .aload_n 0), (25, .getfield 157), (28, .if_icmp .ge 101), (31, .iconst 0), (32, .istore_n 2), (33, .iload_n 2), (34, .iconst 4), (35, .if_icmp .ge 39), (38, .aload_n 0), (39, .aload_n 0), (40, .getfield 55), (43, .iload_n 1), (44, .iaload), (45, .iload_n 2), (46, .invokevirtual 117), (49, .ifCond .le 19), (52, .aload_n 0), (53, .getfield 79), (56, .aload_n 0), (57, .getfield 61), (60, .iconst 4), (61, .iload_n 1), (62, .imul), (63, .iload_n 2), (64, .iadd), (65, .iaload), (66, .iconst 1), (67, .bastore), (68, .iinc 2 1), (71, .goto (-38)), (74, .iconst 0), (75, .istore_n 2), (76, .iload_n 2), (77, .aload_n 0), (78, .getfield 70), (81, .iload_n 1), (82, .iaload), (83, .if_icmp .ge 40), (86, .aload_n 0), (87, .getfield 67), (90, .bipush 6), (92, .iload_n 1), (93, .imul), (94, .iload_n 2), (95, .iadd), (96, .iaload), (97, .ifCond .le 20), (100, .aload_n 0), (101, .getfield 79), (104, .aload_n 0), (105, .getfield 64), (108, .bipush 6), (110, .iload_n 1), (111, .imul), (112, .iload_n 2), (113, .iadd), (114, .iaload), (115, .iconst 1), (116, .bastore), (117, .iinc 2 1), (120, .goto (-44)), (123, .iinc 1 1), (126, .goto (-103)), (129, .iconst 0), (130, .istore_n 1), (131, .iload_n 1), (132, .bipush 16), (134, .if_icmp .ge 102), (137, .iconst 1), (138, .istore_n 2), (139, .iload_n 2), (140, .bipush 16), (142, .if_icmp .gt 88), (145, .iconst 0), (146, .istore_n 3), (147, .iload_n 3), (148, .iconst 4), (149, .if_icmp .ge 75), (152, .aload_n 0), (153, .getfield 79), (156, .iload_n 2), (157, .baload), (158, .ifCond .eq 60), (161, .aload_n 0), (162, .getfield 73), (165, .iload_n 2), (166, .iaload), (167, .ifCond .le 51), (170, .iload_n 3), (171, .aload_n 0), (172, .getfield 7), (175, .aload_n 0), (176, .getfield 73), (179, .iload_n 2), (180, .iaload), (181, .iconst 1), (182, .isub), (183, .iaload), (184, .if_icmp .ge 34), (187, .aload_n 0), (188, .iconst 0), (189, .aload_n 0), (190, .getfield 73), (193, .iload_n 2), (194, .iaload), (195, .iload_n 3), (196, .invokevirtual 101), (199, .ifCond .le 19), (202, .aload_n 0), (203, .getfield 79), (206, .aload_n 0), (207, .getfield 76), (210, .iconst 4), (211, .iload_n 2), (212, .imul), (213, .iload_n 3), (214, .iadd), (215, .iaload), (216, .iconst 1), (217, .bastore), (218, .iinc 3 1), (221, .goto (-74)), (224, .iinc 2 1), (227, .goto (-88)), (230, .iinc 1 1), (233, .goto (-102)), (236, .iconst 1), (237, .istore_n 1), (238, .iload_n 1), (239, .bipush 16), (241, .if_icmp .gt 34), (244, .aload_n 0), (245, .getfield 73), (248, .iload_n 1), (249, .aload_n 0), (250, .getfield 79), (253, .iload_n 1), (254, .baload), (255, .ifCond .eq 12), (258, .aload_n 0), (259, .getfield 73), (262, .iload_n 1), (263, .iaload), (264, .goto 4), (267, .iconst 0), (268, .iastore), (269, .iinc 1 1), (272, .goto (-34)), (275, .return_)]
def fl_M_collect : List (Nat × Nat × Nat × Nat) := [(79, 10, 30, 2), (157, 10, 21, 0), (55, 10, 22, 2), (61, 10, 24, 2), (70, 10, 27, 2), (67, 10, 26, 2), (64, 10, 25, 2), (73, 10, 28, 2), (7, 10, 0, 2), (76, 10, 29, 2)]
def cb_M_collect : List (Instr × Nat × Nat × Option Nat × am_F) := [(.invokevirtual 117, 117, 3, (some 10), f_M_local), (.invokevirtual 101, 101, 4, (some 10), f_M_typeOf)]
def m_M_collect : am_M := am_mk co_M_collect fl_M_collect (cb_M_collect.map (fun z => z.2)) [] [] none 2
def f_M_collect : am_F := am_mf m_M_collect 1
theorem o_M_collect : am_ok m_M_collect := am_mk_ok (am_cb_ok (List.forall_mem_cons.mpr ⟨n_M_local, (List.forall_mem_cons.mpr ⟨n_M_typeOf, (fun _ h => absurd h List.not_mem_nil)⟩)⟩))
theorem n_M_collect : am_mono f_M_collect := am_mf_mono o_M_collect
theorem g_M_collect : ∀ x q, am_cal m_M_collect x = some q → am_grow q.2.2 := am_mk_grow (am_cb_gr (List.forall_mem_cons.mpr ⟨h_M_local, (List.forall_mem_cons.mpr ⟨h_M_typeOf, (fun _ h => absurd h List.not_mem_nil)⟩)⟩))
theorem h_M_collect : am_grow f_M_collect := am_mf_grow g_M_collect
def y_M_transform : MethodName := ⟨"PatchedMachineModel", "transform", "(II)V"⟩
def co_M_transform : List (Nat × Instr) := [(0, .iconst 0), (1, .istore_n 3), (2, .iload_n 3), (3, .iconst 4), (4, .if_icmp .ge 88), (7, .iload_n 3), (8, .aload_n 0), (9, .getfield 7), (12, .iconst 3), (13, .iload_n 2), (14, .iadd), (15, .iconst 1), (16, .isub), (17, .iaload), (18, .if_icmp .ge 20), (21, .aload_n 0), (22, .getfield 19), (25, .iconst 4), (26, .iconst 3), (27, .iload_n 2), (28, .iadd), (29, .iconst 1), (30, .isub), (31, .imul), (32, .iload_n 3), (33, .iadd), (34, .iaload), (35, .goto 4), (38, .iconst (-1)), (39, .istore 4), (41, .iload 4), (43, .ifCond .ge 7), (46, .iconst (-1)), (47, .goto 11), (50, .aload_n 0), (51, .iconst 0), (52, .iload_n 2), (53, .iload 4), (55, .invokevirtual 93), (58, .istore 5), (60, .aload_n 0), (61, .getfield 83), (64, .iload_n 3), (65, .iload 5), (67, .ifCond .ge 7), (70, .iconst 0), (71, .goto 14), (74, .aload_n 0), (75, .getfield 76), (78, .iconst 4), (79, .iload_n 1), (80, .imul), (81, .iload 5), (83, .iadd), (84, .iaload), (85, .iastore), (86, .iinc 3 1), (89, .goto (-87)), (92, .iconst 0), (93, .istore_n 3), (94, .iload_n 3), (95, .iconst 4), (96, .if_icmp .ge 25), (99, .aload_n 0), (100, .getfield 76), (103, .iconst 4), (104, .iload_n 1), (105, .imul), (106, .iload_n 3), (107, .iadd), (108, .aload_n 0), (109, .getfield 83), (112, .iload_n 3), (113, .iaload), (114, .iastore), (115, .iinc 3 1), (118, .goto (-24)), (121, .return_)]
def fl_M_transform : List (Nat × Nat × Nat × Nat) := [(7, 10, 0, 2), (19, 10, 3, 2), (83, 10, 31, 2), (76, 10, 29, 2)]
def cb_M_transform : List (Instr × Nat × Nat × Option Nat × am_F) := [(.invokevirtual 93, 93, 4, (some 10), f_M_find)]
def m_M_transform : am_M := am_mk co_M_transform fl_M_transform (cb_M_transform.map (fun z => z.2)) [] [] none 2
def f_M_transform : am_F := am_mf m_M_transform 3
theorem o_M_transform : am_ok m_M_transform := am_mk_ok (am_cb_ok (List.forall_mem_cons.mpr ⟨n_M_find, (fun _ h => absurd h List.not_mem_nil)⟩))
theorem n_M_transform : am_mono f_M_transform := am_mf_mono o_M_transform
theorem g_M_transform : ∀ x q, am_cal m_M_transform x = some q → am_grow q.2.2 := am_mk_grow (am_cb_gr (List.forall_mem_cons.mpr ⟨h_M_find, (fun _ h => absurd h List.not_mem_nil)⟩))
theorem h_M_transform : am_grow f_M_transform := am_mf_grow g_M_transform
def y_M_apply : MethodName := ⟨"PatchedMachineModel", "apply", "()V"⟩
def co_M_apply : List (Nat × Instr) := [(0, .aload_n 0), (1, .invokevirtual 167), (4, .iconst 1), (5, .istore_n 1), (6, .iload_n 1), (7, .bipush 16), (9, .if_icmp .gt 58), (12, .aload_n 0), (13, .getfield 73), (16, .iload_n 1), (17, .iaload), (18, .ifCond .le 43), (21, .aload_n 0), (22, .getfield 43), (25, .iconst 1), (26, .iaload), (27, .aload_n 0), (28, .getfield 73), (31, .iload_n 1), (32, .iaload), (33, .ishr), (34, .iconst 1), (35, .iand), (36, .iconst 1), (37, .if_icmp .ne 24), (40, .aload_n 0), (41, .iload_n 1), (42, .aload_n 0), (43, .getfield 73), (46, .iload_n 1), (47, .iaload), (48, .invokevirtual 170), (51, .aload_n 0), (52, .dup), (53, .getfield 173), (56, .iconst 1), (57, .iadd), (58, .putfield 173), (61, .iinc 1 1), (64, .goto (-58)), (67, .aload_n 0), (68, .iconst 1), (69, .iconst 0), (70, .invokevirtual 107), (73, .aload_n 0), (74, .iconst 2), (75, .iconst 1), (76, .invokevirtual 107), (79, .aload_n 0), (80, .iconst 3), (81, .iconst 2), (82, .invokevirtual 107), (85, .aload_n 0), (86, .dup), (87, .getfield 97), (90, .iconst 1), (91, .isub), (92, .putfield 97), (95, .aload_n 0), (96, .dup), (97, .getfield 176), (100, .iconst 1), (101, .iadd), (102, .putfield 176), (105, .return_)]
def fl_M_apply : List (Nat × Nat × Nat × Nat) := [(73, 10, 28, 2), (43, 10, 11, 2), (173, 10, 16, 0), (97, 10, 14, 0), (176, 10, 15, 0)]
def cb_M_apply : List (Instr × Nat × Nat × Option Nat × am_F) := [(.invokevirtual 167, 167, 1, (some 10), f_M_collect), (.invokevirtual 170, 170, 3, (some 10), f_M_transform), (.invokevirtual 107, 107, 3, (some 10), f_M_copy)]
def m_M_apply : am_M := am_mk co_M_apply fl_M_apply (cb_M_apply.map (fun z => z.2)) [] [] none 2
def f_M_apply : am_F := am_mf m_M_apply 1
theorem o_M_apply : am_ok m_M_apply := am_mk_ok (am_cb_ok (List.forall_mem_cons.mpr ⟨n_M_collect, (List.forall_mem_cons.mpr ⟨n_M_transform, (List.forall_mem_cons.mpr ⟨n_M_copy, (fun _ h => absurd h List.not_mem_nil)⟩)⟩)⟩))
theorem n_M_apply : am_mono f_M_apply := am_mf_mono o_M_apply
theorem g_M_apply : ∀ x q, am_cal m_M_apply x = some q → am_grow q.2.2 := am_mk_grow (am_cb_gr (List.forall_mem_cons.mpr ⟨h_M_collect, (List.forall_mem_cons.mpr ⟨h_M_transform, (List.forall_mem_cons.mpr ⟨h_M_copy, (fun _ h => absurd h List.not_mem_nil)⟩)⟩)⟩))
theorem h_M_apply : am_grow f_M_apply := am_mf_grow g_M_apply
def y_M_settle : MethodName := ⟨"PatchedMachineModel", "settle", "()V"⟩
def co_M_settle : List (Nat × Instr) := [(0, .iconst 0), (1, .istore_n 1), (2, .iload_n 1), (3, .iconst 3), (4, .if_icmp .ge 27), (7, .aload_n 0), (8, .getfield 97), (11, .ifCond .le 14), (14, .aload_n 0), (15, .invokevirtual 160), (18, .ifCond .eq 7), (21, .aload_n 0), (22, .invokevirtual 164), (25, .iinc 1 1), (28, .goto (-26)), (31, .return_)]
def fl_M_settle : List (Nat × Nat × Nat × Nat) := [(97, 10, 14, 0)]
def cb_M_settle : List (Instr × Nat × Nat × Option Nat × am_F) := [(.invokevirtual 160, 160, 1, (some 10), f_M_free), (.invokevirtual 164, 164, 1, (some 10), f_M_apply)]
def m_M_settle : am_M := am_mk co_M_settle fl_M_settle (cb_M_settle.map (fun z => z.2)) [] [] none 2
def f_M_settle : am_F := am_mf m_M_settle 1
theorem o_M_settle : am_ok m_M_settle := am_mk_ok (am_cb_ok (List.forall_mem_cons.mpr ⟨n_M_free, (List.forall_mem_cons.mpr ⟨n_M_apply, (fun _ h => absurd h List.not_mem_nil)⟩)⟩))
theorem n_M_settle : am_mono f_M_settle := am_mf_mono o_M_settle
theorem g_M_settle : ∀ x q, am_cal m_M_settle x = some q → am_grow q.2.2 := am_mk_grow (am_cb_gr (List.forall_mem_cons.mpr ⟨h_M_free, (List.forall_mem_cons.mpr ⟨h_M_apply, (fun _ h => absurd h List.not_mem_nil)⟩)⟩))
theorem h_M_settle : am_grow f_M_settle := am_mf_grow g_M_settle
def y_M_commit : MethodName := ⟨"PatchedMachineModel", "commit", "()I"⟩
def co_M_commit : List (Nat × Instr) := [(0, .aload_n 0), (1, .getfield 43), (4, .iconst 4), (5, .iaload), (6, .ifCond .ne 12), (9, .aload_n 0), (10, .getfield 46), (13, .iconst 4), (14, .iaload), (15, .ifCond .eq 11), (18, .aload_n 0), (19, .getfield 97), (22, .iconst 3), (23, .if_icmp .ne 5), (26, .iconst (-1)), (27, .ireturn), (28, .aload_n 0), (29, .invokevirtual 147), (32, .istore_n 1), (33, .iload_n 1), (34, .ifCond .lt 7), (37, .iconst 1), (38, .iload_n 1), (39, .iadd), (40, .ireturn), (41, .aload_n 0), (42, .getfield 49), (45, .iconst 4), (46, .aload_n 0), (47, .invokevirtual 151), (50, .iastore), (51, .aload_n 0), (52, .iconst 4), (53, .aload_n 0), (54, .getfield 97), (57, .iconst 1), (58, .iadd), (59, .invokevirtual 107), (62, .aload_n 0), (63, .dup), (64, .getfield 97), (67, .iconst 1), (68, .iadd), (69, .putfield 97), (72, .aload_n 0), (73, .invokevirtual 111), (76, .aload_n 0), (77, .invokevirtual 154), (80, .iconst 0), (81, .ireturn)]
def fl_M_commit : List (Nat × Nat × Nat × Nat) := [(43, 10, 11, 2), (46, 10, 12, 2), (97, 10, 14, 0), (49, 10, 13, 2)]
def cb_M_commit : List (Instr × Nat × Nat × Option Nat × am_F) := [(.invokevirtual 147, 147, 1, (some 10), f_M_wrong), (.invokevirtual 151, 151, 1, (some 10), f_M_restrictedBy), (.invokevirtual 107, 107, 3, (some 10), f_M_copy), (.invokevirtual 111, 111, 1, (some 10), f_M_renew), (.invokevirtual 154, 154, 1, (some 10), f_M_settle)]
def m_M_commit : am_M := am_mk co_M_commit fl_M_commit (cb_M_commit.map (fun z => z.2)) [] [] none 0
def f_M_commit : am_F := am_mf m_M_commit 1
theorem o_M_commit : am_ok m_M_commit := am_mk_ok (am_cb_ok (List.forall_mem_cons.mpr ⟨n_M_wrong, (List.forall_mem_cons.mpr ⟨n_M_restrictedBy, (List.forall_mem_cons.mpr ⟨n_M_copy, (List.forall_mem_cons.mpr ⟨n_M_renew, (List.forall_mem_cons.mpr ⟨n_M_settle, (fun _ h => absurd h List.not_mem_nil)⟩)⟩)⟩)⟩)⟩))
theorem n_M_commit : am_mono f_M_commit := am_mf_mono o_M_commit
theorem g_M_commit : ∀ x q, am_cal m_M_commit x = some q → am_grow q.2.2 := am_mk_grow (am_cb_gr (List.forall_mem_cons.mpr ⟨h_M_wrong, (List.forall_mem_cons.mpr ⟨h_M_restrictedBy, (List.forall_mem_cons.mpr ⟨h_M_copy, (List.forall_mem_cons.mpr ⟨h_M_renew, (List.forall_mem_cons.mpr ⟨h_M_settle, (fun _ h => absurd h List.not_mem_nil)⟩)⟩)⟩)⟩)⟩))
theorem h_M_commit : am_grow f_M_commit := am_mf_grow g_M_commit
def y_M_waiting : MethodName := ⟨"PatchedMachineModel", "waiting", "()I"⟩
def co_M_waiting : List (Nat × Instr) := [(0, .aload_n 0), (1, .getfield 97), (4, .ireturn)]
def fl_M_waiting : List (Nat × Nat × Nat × Nat) := [(97, 10, 14, 0)]
def cb_M_waiting : List (Instr × Nat × Nat × Option Nat × am_F) := []
def m_M_waiting : am_M := am_mk co_M_waiting fl_M_waiting (cb_M_waiting.map (fun z => z.2)) [] [] none 0
def f_M_waiting : am_F := am_mf m_M_waiting 1
theorem o_M_waiting : am_ok m_M_waiting := am_mk_ok (am_cb_ok (fun _ h => absurd h List.not_mem_nil))
theorem n_M_waiting : am_mono f_M_waiting := am_mf_mono o_M_waiting
theorem g_M_waiting : ∀ x q, am_cal m_M_waiting x = some q → am_grow q.2.2 := am_mk_grow (am_cb_gr (fun _ h => absurd h List.not_mem_nil))
theorem h_M_waiting : am_grow f_M_waiting := am_mf_grow g_M_waiting
def y_M_restricted : MethodName := ⟨"PatchedMachineModel", "restricted", "()I"⟩
def co_M_restricted : List (Nat × Instr) := [(0, .aload_n 0), (1, .getfield 97), (4, .ifCond .le 12), (7, .aload_n 0), (8, .getfield 49), (11, .iconst 1), (12, .iaload), (13, .goto 4), (16, .iconst 0), (17, .ireturn)]
def fl_M_restricted : List (Nat × Nat × Nat × Nat) := [(97, 10, 14, 0), (49, 10, 13, 2)]
def cb_M_restricted : List (Instr × Nat × Nat × Option Nat × am_F) := []
def m_M_restricted : am_M := am_mk co_M_restricted fl_M_restricted (cb_M_restricted.map (fun z => z.2)) [] [] none 0
def f_M_restricted : am_F := am_mf m_M_restricted 1
theorem o_M_restricted : am_ok m_M_restricted := am_mk_ok (am_cb_ok (fun _ h => absurd h List.not_mem_nil))
theorem n_M_restricted : am_mono f_M_restricted := am_mf_mono o_M_restricted
theorem g_M_restricted : ∀ x q, am_cal m_M_restricted x = some q → am_grow q.2.2 := am_mk_grow (am_cb_gr (fun _ h => absurd h List.not_mem_nil))
theorem h_M_restricted : am_grow f_M_restricted := am_mf_grow g_M_restricted
def y_M_applied : MethodName := ⟨"PatchedMachineModel", "applied", "()I"⟩
def co_M_applied : List (Nat × Instr) := [(0, .aload_n 0), (1, .getfield 176), (4, .ireturn)]
def fl_M_applied : List (Nat × Nat × Nat × Nat) := [(176, 10, 15, 0)]
def cb_M_applied : List (Instr × Nat × Nat × Option Nat × am_F) := []
def m_M_applied : am_M := am_mk co_M_applied fl_M_applied (cb_M_applied.map (fun z => z.2)) [] [] none 0
def f_M_applied : am_F := am_mf m_M_applied 1
theorem o_M_applied : am_ok m_M_applied := am_mk_ok (am_cb_ok (fun _ h => absurd h List.not_mem_nil))
theorem n_M_applied : am_mono f_M_applied := am_mf_mono o_M_applied
theorem g_M_applied : ∀ x q, am_cal m_M_applied x = some q → am_grow q.2.2 := am_mk_grow (am_cb_gr (fun _ h => absurd h List.not_mem_nil))
theorem h_M_applied : am_grow f_M_applied := am_mf_grow g_M_applied
def y_M_moved : MethodName := ⟨"PatchedMachineModel", "moved", "()I"⟩
def co_M_moved : List (Nat × Instr) := [(0, .aload_n 0), (1, .getfield 173), (4, .ireturn)]
def fl_M_moved : List (Nat × Nat × Nat × Nat) := [(173, 10, 16, 0)]
def cb_M_moved : List (Instr × Nat × Nat × Option Nat × am_F) := []
def m_M_moved : am_M := am_mk co_M_moved fl_M_moved (cb_M_moved.map (fun z => z.2)) [] [] none 0
def f_M_moved : am_F := am_mf m_M_moved 1
theorem o_M_moved : am_ok m_M_moved := am_mk_ok (am_cb_ok (fun _ h => absurd h List.not_mem_nil))
theorem n_M_moved : am_mono f_M_moved := am_mf_mono o_M_moved
theorem g_M_moved : ∀ x q, am_cal m_M_moved x = some q → am_grow q.2.2 := am_mk_grow (am_cb_gr (fun _ h => absurd h List.not_mem_nil))
theorem h_M_moved : am_grow f_M_moved := am_mf_grow g_M_moved
def y_M_objects : MethodName := ⟨"PatchedMachineModel", "objects", "()I"⟩
def co_M_objects : List (Nat × Instr) := [(0, .iconst 0), (1, .istore_n 1), (2, .iconst 1), (3, .istore_n 2), (4, .iload_n 2), (5, .bipush 16), (7, .if_icmp .gt 26), (10, .aload_n 0), (11, .getfield 73), (14, .iload_n 2), (15, .iaload), (16, .ifCond .le 9), (19, .iload_n 1), (20, .iconst 1), (21, .iadd), (22, .goto 4), (25, .iload_n 1), (26, .istore_n 1), (27, .iinc 2 1), (30, .goto (-26)), (33, .iload_n 1), (34, .ireturn)]
def fl_M_objects : List (Nat × Nat × Nat × Nat) := [(73, 10, 28, 2)]
def cb_M_objects : List (Instr × Nat × Nat × Option Nat × am_F) := []
def m_M_objects : am_M := am_mk co_M_objects fl_M_objects (cb_M_objects.map (fun z => z.2)) [] [] none 0
def f_M_objects : am_F := am_mf m_M_objects 1
theorem o_M_objects : am_ok m_M_objects := am_mk_ok (am_cb_ok (fun _ h => absurd h List.not_mem_nil))
theorem n_M_objects : am_mono f_M_objects := am_mf_mono o_M_objects
theorem g_M_objects : ∀ x q, am_cal m_M_objects x = some q → am_grow q.2.2 := am_mk_grow (am_cb_gr (fun _ h => absurd h List.not_mem_nil))
theorem h_M_objects : am_grow f_M_objects := am_mf_grow g_M_objects
def y_M_begin : MethodName := ⟨"PatchedMachineModel", "begin", "(II)V"⟩
def co_M_begin : List (Nat × Instr) := [(0, .aload_n 0), (1, .getfield 157), (4, .istore_n 3), (5, .aload_n 0), (6, .dup), (7, .getfield 157), (10, .iconst 1), (11, .iadd), (12, .putfield 157), (15, .aload_n 0), (16, .getfield 55), (19, .iload_n 3), (20, .iload_n 1), (21, .iastore), (22, .aload_n 0), (23, .getfield 58), (26, .iload_n 3), (27, .iconst 0), (28, .iastore), (29, .aload_n 0), (30, .getfield 70), (33, .iload_n 3), (34, .iconst 0), (35, .iastore), (36, .iload_n 2), (37, .istore 4), (39, .iload 4), (41, .iconst 4), (42, .if_icmp .ge 21), (45, .aload_n 0), (46, .getfield 61), (49, .iconst 4), (50, .iload_n 3), (51, .imul), (52, .iload 4), (54, .iadd), (55, .iconst 0), (56, .iastore), (57, .iinc 4 1), (60, .goto (-21)), (63, .return_)]
def fl_M_begin : List (Nat × Nat × Nat × Nat) := [(157, 10, 21, 0), (55, 10, 22, 2), (58, 10, 23, 2), (70, 10, 27, 2), (61, 10, 24, 2)]
def cb_M_begin : List (Instr × Nat × Nat × Option Nat × am_F) := []
def m_M_begin : am_M := am_mk co_M_begin fl_M_begin (cb_M_begin.map (fun z => z.2)) [] [] none 2
def f_M_begin : am_F := am_mf m_M_begin 3
theorem o_M_begin : am_ok m_M_begin := am_mk_ok (am_cb_ok (fun _ h => absurd h List.not_mem_nil))
theorem n_M_begin : am_mono f_M_begin := am_mf_mono o_M_begin
theorem g_M_begin : ∀ x q, am_cal m_M_begin x = some q → am_grow q.2.2 := am_mk_grow (am_cb_gr (fun _ h => absurd h List.not_mem_nil))
theorem h_M_begin : am_grow f_M_begin := am_mf_grow g_M_begin
def y_M_start : MethodName := ⟨"PatchedMachineModel", "start", "(I)Z"⟩
def co_M_start : List (Nat × Instr) := [(0, .aload_n 0), (1, .getfield 182), (4, .iconst 1), (5, .if_icmp .eq 39), (8, .iload_n 1), (9, .iconst 0), (10, .iconst 5), (11, .invokestatic 89), (14, .ifCond .eq 30), (17, .aload_n 0), (18, .getfield 31), (21, .iload_n 1), (22, .iaload), (23, .ifCond .eq 21), (26, .aload_n 0), (27, .getfield 22), (30, .iload_n 1), (31, .iaload), (32, .ifCond .gt 12), (35, .aload_n 0), (36, .getfield 28), (39, .iload_n 1), (40, .iaload), (41, .ifCond .eq 5), (44, .iconst 0), (45, .ireturn), (46, .aload_n 0), (47, .iconst 1), (48, .putfield 182), (51, .aload_n 0), (52, .iconst 0), (53, .putfield 185), (56, .aload_n 0), (57, .iconst 0), (58, .putfield 157), (61, .aload_n 0), (62, .iload_n 1), (63, .iconst 0), (64, .invokevirtual 188), (67, .iconst 1), (68, .ireturn)]
def fl_M_start : List (Nat × Nat × Nat × Nat) := [(182, 10, 19, 0), (31, 10, 7, 2), (22, 10, 4, 2), (28, 10, 6, 2), (185, 10, 20, 0), (157, 10, 21, 0)]
def cb_M_start : List (Instr × Nat × Nat × Option Nat × am_F) := [(.invokestatic 89, 89, 3, none, f_M_in), (.invokevirtual 188, 188, 3, (some 10), f_M_begin)]
def m_M_start : am_M := am_mk co_M_start fl_M_start (cb_M_start.map (fun z => z.2)) [] [] none 1
def f_M_start : am_F := am_mf m_M_start 2
theorem o_M_start : am_ok m_M_start := am_mk_ok (am_cb_ok (List.forall_mem_cons.mpr ⟨n_M_in, (List.forall_mem_cons.mpr ⟨n_M_begin, (fun _ h => absurd h List.not_mem_nil)⟩)⟩))
theorem n_M_start : am_mono f_M_start := am_mf_mono o_M_start
theorem g_M_start : ∀ x q, am_cal m_M_start x = some q → am_grow q.2.2 := am_mk_grow (am_cb_gr (List.forall_mem_cons.mpr ⟨h_M_in, (List.forall_mem_cons.mpr ⟨h_M_begin, (fun _ h => absurd h List.not_mem_nil)⟩)⟩))
theorem h_M_start : am_grow f_M_start := am_mf_grow g_M_start
def y_M_put : MethodName := ⟨"PatchedMachineModel", "put", "(II)V"⟩
def co_M_put : List (Nat × Instr) := [(0, .aload_n 0), (1, .getfield 157), (4, .iconst 1), (5, .isub), (6, .istore_n 3), (7, .aload_n 0), (8, .getfield 64), (11, .bipush 6), (13, .iload_n 3), (14, .imul), (15, .aload_n 0), (16, .getfield 70), (19, .iload_n 3), (20, .iaload), (21, .iadd), (22, .iload_n 1), (23, .iastore), (24, .aload_n 0), (25, .getfield 67), (28, .bipush 6), (30, .iload_n 3), (31, .imul), (32, .aload_n 0), (33, .getfield 70), (36, .iload_n 3), (37, .iaload), (38, .iadd), (39, .iload_n 2), (40, .iastore), (41, .aload_n 0), (42, .getfield 70), (45, .iload_n 3), (46, .dup2), (47, .iaload), (48, .iconst 1), (49, .iadd), (50, .iastore), (51, .return_)]
def fl_M_put : List (Nat × Nat × Nat × Nat) := [(157, 10, 21, 0), (64, 10, 25, 2), (70, 10, 27, 2), (67, 10, 26, 2)]
def cb_M_put : List (Instr × Nat × Nat × Option Nat × am_F) := []
def m_M_put : am_M := am_mk co_M_put fl_M_put (cb_M_put.map (fun z => z.2)) [] [] none 2
def f_M_put : am_F := am_mf m_M_put 3
theorem o_M_put : am_ok m_M_put := am_mk_ok (am_cb_ok (fun _ h => absurd h List.not_mem_nil))
theorem n_M_put : am_mono f_M_put := am_mf_mono o_M_put
theorem g_M_put : ∀ x q, am_cal m_M_put x = some q → am_grow q.2.2 := am_mk_grow (am_cb_gr (fun _ h => absurd h List.not_mem_nil))
theorem h_M_put : am_grow f_M_put := am_mf_grow g_M_put
def y_M_take : MethodName := ⟨"PatchedMachineModel", "take", "()I"⟩
def co_M_take : List (Nat × Instr) := [(0, .aload_n 0), (1, .getfield 157), (4, .iconst 1), (5, .isub), (6, .istore_n 1), (7, .aload_n 0), (8, .getfield 70), (11, .iload_n 1), (12, .dup2), (13, .iaload), (14, .iconst 1), (15, .isub), (16, .iastore), (17, .aload_n 0), (18, .getfield 64), (21, .bipush 6), (23, .iload_n 1), (24, .imul), (25, .aload_n 0), (26, .getfield 70), (29, .iload_n 1), (30, .iaload), (31, .iadd), (32, .iaload), (33, .ireturn)]
def fl_M_take : List (Nat × Nat × Nat × Nat) := [(157, 10, 21, 0), (70, 10, 27, 2), (64, 10, 25, 2)]
def cb_M_take : List (Instr × Nat × Nat × Option Nat × am_F) := []
def m_M_take : am_M := am_mk co_M_take fl_M_take (cb_M_take.map (fun z => z.2)) [] [] none 0
def f_M_take : am_F := am_mf m_M_take 1
theorem o_M_take : am_ok m_M_take := am_mk_ok (am_cb_ok (fun _ h => absurd h List.not_mem_nil))
theorem n_M_take : am_mono f_M_take := am_mf_mono o_M_take
theorem g_M_take : ∀ x q, am_cal m_M_take x = some q → am_grow q.2.2 := am_mk_grow (am_cb_gr (fun _ h => absurd h List.not_mem_nil))
theorem h_M_take : am_grow f_M_take := am_mf_grow g_M_take
def y_M_call : MethodName := ⟨"PatchedMachineModel", "call", "(I)V"⟩
def co_M_call : List (Nat × Instr) := [(0, .aload_n 0), (1, .getfield 157), (4, .bipush 8), (6, .if_icmp .ne 9), (9, .aload_n 0), (10, .iconst 5), (11, .putfield 182), (14, .return_), (15, .aload_n 0), (16, .getfield 22), (19, .iload_n 1), (20, .iaload), (21, .iconst 1), (22, .isub), (23, .istore_n 2), (24, .iload_n 2), (25, .ifCond .lt 26), (28, .aload_n 0), (29, .getfield 61), (32, .iconst 4), (33, .aload_n 0), (34, .getfield 157), (37, .imul), (38, .iload_n 2), (39, .iadd), (40, .aload_n 0), (41, .invokevirtual 197), (44, .iastore), (45, .iinc 2 (-1)), (48, .goto (-24)), (51, .aload_n 0), (52, .iload_n 1), (53, .aload_n 0), (54, .getfield 22), (57, .iload_n 1), (58, .iaload), (59, .invokevirtual 188), (62, .return_)]
def fl_M_call : List (Nat × Nat × Nat × Nat) := [(157, 10, 21, 0), (182, 10, 19, 0), (22, 10, 4, 2), (61, 10, 24, 2)]
def cb_M_call : List (Instr × Nat × Nat × Option Nat × am_F) := [(.invokevirtual 197, 197, 1, (some 10), f_M_take), (.invokevirtual 188, 188, 3, (some 10), f_M_begin)]
def m_M_call : am_M := am_mk co_M_call fl_M_call (cb_M_call.map (fun z => z.2)) [] [] none 2
def f_M_call : am_F := am_mf m_M_call 2
theorem o_M_call : am_ok m_M_call := am_mk_ok (am_cb_ok (List.forall_mem_cons.mpr ⟨n_M_take, (List.forall_mem_cons.mpr ⟨n_M_begin, (fun _ h => absurd h List.not_mem_nil)⟩)⟩))
theorem n_M_call : am_mono f_M_call := am_mf_mono o_M_call
theorem g_M_call : ∀ x q, am_cal m_M_call x = some q → am_grow q.2.2 := am_mk_grow (am_cb_gr (List.forall_mem_cons.mpr ⟨h_M_take, (List.forall_mem_cons.mpr ⟨h_M_begin, (fun _ h => absurd h List.not_mem_nil)⟩)⟩))
theorem h_M_call : am_grow f_M_call := am_mf_grow g_M_call
def y_M_leave : MethodName := ⟨"PatchedMachineModel", "leave", "(I)V"⟩
def co_M_leave : List (Nat × Instr) := [(0, .aload_n 0), (1, .invokevirtual 197), (4, .istore_n 2), (5, .aload_n 0), (6, .dup), (7, .getfield 157), (10, .iconst 1), (11, .isub), (12, .putfield 157), (15, .aload_n 0), (16, .getfield 157), (19, .ifCond .ne 16), (22, .aload_n 0), (23, .iconst 2), (24, .putfield 182), (27, .aload_n 0), (28, .iload_n 2), (29, .putfield 185), (32, .goto 9), (35, .aload_n 0), (36, .iload_n 2), (37, .iload_n 1), (38, .invokevirtual 194), (41, .return_)]
def fl_M_leave : List (Nat × Nat × Nat × Nat) := [(157, 10, 21, 0), (182, 10, 19, 0), (185, 10, 20, 0)]
def cb_M_leave : List (Instr × Nat × Nat × Option Nat × am_F) := [(.invokevirtual 197, 197, 1, (some 10), f_M_take), (.invokevirtual 194, 194, 3, (some 10), f_M_put)]
def m_M_leave : am_M := am_mk co_M_leave fl_M_leave (cb_M_leave.map (fun z => z.2)) [] [] none 2
def f_M_leave : am_F := am_mf m_M_leave 2
theorem o_M_leave : am_ok m_M_leave := am_mk_ok (am_cb_ok (List.forall_mem_cons.mpr ⟨n_M_take, (List.forall_mem_cons.mpr ⟨n_M_put, (fun _ h => absurd h List.not_mem_nil)⟩)⟩))
theorem n_M_leave : am_mono f_M_leave := am_mf_mono o_M_leave
theorem g_M_leave : ∀ x q, am_cal m_M_leave x = some q → am_grow q.2.2 := am_mk_grow (am_cb_gr (List.forall_mem_cons.mpr ⟨h_M_take, (List.forall_mem_cons.mpr ⟨h_M_put, (fun _ h => absurd h List.not_mem_nil)⟩)⟩))
theorem h_M_leave : am_grow f_M_leave := am_mf_grow g_M_leave
def y_M_born : MethodName := ⟨"PatchedMachineModel", "born", "(I)I"⟩
def co_M_born : List (Nat × Instr) := [(0, .aload_n 0), (1, .invokevirtual 179), (4, .bipush 16), (6, .if_icmp .ne 7), (9, .aload_n 0), (10, .invokevirtual 167), (13, .iconst 1), (14, .istore_n 2), (15, .iload_n 2), (16, .bipush 16), (18, .if_icmp .gt 51), (21, .aload_n 0), (22, .getfield 73), (25, .iload_n 2), (26, .iaload), (27, .ifCond .ne 36), (30, .aload_n 0), (31, .getfield 73), (34, .iload_n 2), (35, .iload_n 1), (36, .iastore), (37, .iconst 0), (38, .istore_n 3), (39, .iload_n 3), (40, .iconst 4), (41, .if_icmp .ge 20), (44, .aload_n 0), (45, .getfield 76), (48, .iconst 4), (49, .iload_n 2), (50, .imul), (51, .iload_n 3), (52, .iadd), (53, .iconst 0), (54, .iastore), (55, .iinc 3 1), (58, .goto (-19)), (61, .iload_n 2), (62, .ireturn), (63, .iinc 2 1), (66, .goto (-51)), (69, .iconst 0), (70, .ireturn)]
def fl_M_born : List (Nat × Nat × Nat × Nat) := [(73, 10, 28, 2), (76, 10, 29, 2)]
def cb_M_born : List (Instr × Nat × Nat × Option Nat × am_F) := [(.invokevirtual 179, 179, 1, (some 10), f_M_objects), (.invokevirtual 167, 167, 1, (some 10), f_M_collect)]
def m_M_born : am_M := am_mk co_M_born fl_M_born (cb_M_born.map (fun z => z.2)) [] [] none 0
def f_M_born : am_F := am_mf m_M_born 2
theorem o_M_born : am_ok m_M_born := am_mk_ok (am_cb_ok (List.forall_mem_cons.mpr ⟨n_M_objects, (List.forall_mem_cons.mpr ⟨n_M_collect, (fun _ h => absurd h List.not_mem_nil)⟩)⟩))
theorem n_M_born : am_mono f_M_born := am_mf_mono o_M_born
theorem g_M_born : ∀ x q, am_cal m_M_born x = some q → am_grow q.2.2 := am_mk_grow (am_cb_gr (List.forall_mem_cons.mpr ⟨h_M_objects, (List.forall_mem_cons.mpr ⟨h_M_collect, (fun _ h => absurd h List.not_mem_nil)⟩)⟩))
theorem h_M_born : am_grow f_M_born := am_mf_grow g_M_born
def y_M_object : MethodName := ⟨"PatchedMachineModel", "object", "(III)V"⟩
def co_M_object : List (Nat × Instr) := [(0, .iload_n 1), (1, .bipush 10), (3, .if_icmp .ne 31), (6, .aload_n 0), (7, .iload_n 2), (8, .invokevirtual 214), (11, .istore 4), (13, .iload 4), (15, .ifCond .ne 11), (18, .aload_n 0), (19, .iconst 4), (20, .putfield 182), (23, .goto 10), (26, .aload_n 0), (27, .iload 4), (29, .iload_n 2), (30, .invokevirtual 194), (33, .return_), (34, .aload_n 0), (35, .iconst 0), (36, .iload_n 2), (37, .iload_n 3), (38, .invokevirtual 93), (41, .istore 4), (43, .iload_n 1), (44, .bipush 12), (46, .if_icmp .ne 10), (49, .aload_n 0), (50, .invokevirtual 197), (53, .goto 4), (56, .iconst 0), (57, .istore 5), (59, .aload_n 0), (60, .invokevirtual 197), (63, .istore 6), (65, .iload 6), (67, .ifCond .ne 11), (70, .aload_n 0), (71, .iconst 3), (72, .putfield 182), (75, .goto 50), (78, .iload_n 1), (79, .bipush 11), (81, .if_icmp .ne 30), (84, .aload_n 0), (85, .aload_n 0), (86, .getfield 76), (89, .iconst 4), (90, .iload 6), (92, .imul), (93, .iload 4), (95, .iadd), (96, .iaload), (97, .aload_n 0), (98, .iconst 0), (99, .iload_n 2), (100, .iload 4), (102, .invokevirtual 101), (105, .invokevirtual 194), (108, .goto 17), (111, .aload_n 0), (112, .getfield 76), (115, .iconst 4), (116, .iload 6), (118, .imul), (119, .iload 4), (121, .iadd), (122, .iload 5), (124, .iastore), (125, .return_)]
def fl_M_object : List (Nat × Nat × Nat × Nat) := [(182, 10, 19, 0), (76, 10, 29, 2)]
def cb_M_object : List (Instr × Nat × Nat × Option Nat × am_F) := [(.invokevirtual 214, 214, 2, (some 10), f_M_born), (.invokevirtual 194, 194, 3, (some 10), f_M_put), (.invokevirtual 93, 93, 4, (some 10), f_M_find), (.invokevirtual 197, 197, 1, (some 10), f_M_take), (.invokevirtual 101, 101, 4, (some 10), f_M_typeOf)]
def m_M_object : am_M := am_mk co_M_object fl_M_object (cb_M_object.map (fun z => z.2)) [] [] none 2
def f_M_object : am_F := am_mf m_M_object 4
theorem o_M_object : am_ok m_M_object := am_mk_ok (am_cb_ok (List.forall_mem_cons.mpr ⟨n_M_born, (List.forall_mem_cons.mpr ⟨n_M_put, (List.forall_mem_cons.mpr ⟨n_M_find, (List.forall_mem_cons.mpr ⟨n_M_take, (List.forall_mem_cons.mpr ⟨n_M_typeOf, (fun _ h => absurd h List.not_mem_nil)⟩)⟩)⟩)⟩)⟩))
theorem n_M_object : am_mono f_M_object := am_mf_mono o_M_object
theorem g_M_object : ∀ x q, am_cal m_M_object x = some q → am_grow q.2.2 := am_mk_grow (am_cb_gr (List.forall_mem_cons.mpr ⟨h_M_born, (List.forall_mem_cons.mpr ⟨h_M_put, (List.forall_mem_cons.mpr ⟨h_M_find, (List.forall_mem_cons.mpr ⟨h_M_take, (List.forall_mem_cons.mpr ⟨h_M_typeOf, (fun _ h => absurd h List.not_mem_nil)⟩)⟩)⟩)⟩)⟩))
theorem h_M_object : am_grow f_M_object := am_mf_grow g_M_object
def y_M_step : MethodName := ⟨"PatchedMachineModel", "step", "()V"⟩
def co_M_step : List (Nat × Instr) := [(0, .aload_n 0), (1, .getfield 157), (4, .iconst 1), (5, .isub), (6, .istore_n 1), (7, .bipush 14), (9, .aload_n 0), (10, .getfield 55), (13, .iload_n 1), (14, .iaload), (15, .imul), (16, .aload_n 0), (17, .getfield 58), (20, .iload_n 1), (21, .iaload), (22, .iadd), (23, .istore_n 2), (24, .aload_n 0), (25, .getfield 34), (28, .iload_n 2), (29, .iaload), (30, .istore_n 3), (31, .aload_n 0), (32, .getfield 37), (35, .iload_n 2), (36, .iaload), (37, .istore 4), (39, .aload_n 0), (40, .getfield 58), (43, .iload_n 1), (44, .dup2), (45, .iaload), (46, .iconst 1), (47, .iadd), (48, .iastore), (49, .iload_n 3), (50, .ifCond .eq 8), (53, .iload_n 3), (54, .iconst 1), (55, .if_icmp .ne 30), (58, .aload_n 0), (59, .iload_n 3), (60, .ifCond .ne 8), (63, .iload 4), (65, .goto 4), (68, .iconst 0), (69, .iload_n 3), (70, .ifCond .ne 7), (73, .iconst 0), (74, .goto 5), (77, .iload 4), (79, .invokevirtual 194), (82, .goto 318), (85, .iload_n 3), (86, .iconst 2), (87, .if_icmp .ne 33), (90, .aload_n 0), (91, .aload_n 0), (92, .getfield 61), (95, .iconst 4), (96, .iload_n 1), (97, .imul), (98, .iload 4), (100, .iadd), (101, .iaload), (102, .aload_n 0), (103, .aload_n 0), (104, .getfield 55), (107, .iload_n 1), (108, .iaload), (109, .iload 4), (111, .invokevirtual 117), (114, .invokevirtual 194), (117, .goto 283), (120, .iload_n 3), (121, .iconst 3), (122, .if_icmp .ne 21), (125, .aload_n 0), (126, .getfield 61), (129, .iconst 4), (130, .iload_n 1), (131, .imul), (132, .iload 4), (134, .iadd), (135, .aload_n 0), (136, .invokevirtual 197), (139, .iastore), (140, .goto 260), (143, .iload_n 3), (144, .bipush 7), (146, .if_icmp .gt 75), (149, .aload_n 0), (150, .invokevirtual 197), (153, .istore 5), (155, .aload_n 0), (156, .invokevirtual 197), (159, .istore 6), (161, .aload_n 0), (162, .iload_n 3), (163, .iconst 4), (164, .if_icmp .ne 11), (167, .iload 6), (169, .iload 5), (171, .iadd), (172, .goto 42), (175, .iload_n 3), (176, .iconst 5), (177, .if_icmp .ne 11), (180, .iload 6), (182, .iload 5), (184, .isub), (185, .goto 29), (188, .iload_n 3), (189, .bipush 6), (191, .if_icmp .ne 11), (194, .iload 6), (196, .iload 5), (198, .imul), (199, .goto 15), (202, .iload 6), (204, .iload 5), (206, .if_icmp .ge 7), (209, .iconst 1), (210, .goto 4), (213, .iconst 0), (214, .iconst 0), (215, .invokevirtual 194), (218, .goto 182), (221, .iload_n 3), (222, .bipush 8), (224, .if_icmp .ne 14), (227, .aload_n 0), (228, .getfield 58), (231, .iload_n 1), (232, .iload 4), (234, .iastore), (235, .goto 165), (238, .iload_n 3), (239, .bipush 9), (241, .if_icmp .ne 34), (244, .aload_n 0), (245, .invokevirtual 197), (248, .istore 5), (250, .aload_n 0), (251, .getfield 58), (254, .iload_n 1), (255, .iload 5), (257, .ifCond .ne 8), (260, .iload 4), (262, .goto 9), (265, .aload_n 0), (266, .getfield 58), (269, .iload_n 1), (270, .iaload), (271, .iastore), (272, .goto 128), (275, .iload_n 3), (276, .bipush 15), (278, .if_icmp .ne 35), (281, .aload_n 0), (282, .invokevirtual 197), (285, .istore 5), (287, .aload_n 0), (288, .invokevirtual 197), (291, .istore 6), (293, .aload_n 0), (294, .iload 6), (296, .iload 5), (298, .if_icmp .ne 7), (301, .iconst 1), (302, .goto 4), (305, .iconst 0), (306, .iconst 0), (307, .invokevirtual 194), (310, .goto 90), (313, .iload_n 3), (314, .bipush 13), (316, .if_icmp .ne 12), (319, .aload_n 0), (320, .iload 4), (322, .invokevirtual 200), (325, .goto 75), (328, .iload_n 3), (329, .bipush 14), (331, .if_icmp .ne 21), (334, .aload_n 0), (335, .aload_n 0), (336, .getfield 28), (339, .aload_n 0), (340, .getfield 55), (343, .iload_n 1), (344, .iaload), (345, .iaload), (346, .invokevirtual 204), (349, .goto 51), (352, .iload_n 3), (353, .bipush 15), (355, .if_icmp .le 32), (358, .aload_n 0), (359, .getfield 86), (362, .aload_n 0), (363, .getfield 207), (366, .bipush 15), (368, .iand), (369, .aload_n 0), (370, .invokevirtual 197), (373, .iastore), (374, .aload_n 0), (375, .dup), (376, .getfield 207), (379, .iconst 1), (380, .iadd), (381, .putfield 207), (384, .goto 16), (387, .aload_n 0), (388, .iload_n 3), (389, .iload 4), (391, .aload_n 0), (392, .getfield 40), (395, .iload_n 2), (396, .iaload), (397, .invokevirtual 210), (400, .return_)]
def fl_M_step : List (Nat × Nat × Nat × Nat) := [(157, 10, 21, 0), (55, 10, 22, 2), (58, 10, 23, 2), (34, 10, 8, 2), (37, 10, 9, 2), (61, 10, 24, 2), (28, 10, 6, 2), (86, 10, 32, 2), (207, 10, 33, 0), (40, 10, 10, 2)]
def cb_M_step : List (Instr × Nat × Nat × Option Nat × am_F) := [(.invokevirtual 194, 194, 3, (some 10), f_M_put), (.invokevirtual 117, 117, 3, (some 10), f_M_local), (.invokevirtual 197, 197, 1, (some 10), f_M_take), (.invokevirtual 200, 200, 2, (some 10), f_M_call), (.invokevirtual 204, 204, 2, (some 10), f_M_leave), (.invokevirtual 210, 210, 4, (some 10), f_M_object)]
def m_M_step : am_M := am_mk co_M_step fl_M_step (cb_M_step.map (fun z => z.2)) [] [] none 2
def f_M_step : am_F := am_mf m_M_step 1
theorem o_M_step : am_ok m_M_step := am_mk_ok (am_cb_ok (List.forall_mem_cons.mpr ⟨n_M_put, (List.forall_mem_cons.mpr ⟨n_M_local, (List.forall_mem_cons.mpr ⟨n_M_take, (List.forall_mem_cons.mpr ⟨n_M_call, (List.forall_mem_cons.mpr ⟨n_M_leave, (List.forall_mem_cons.mpr ⟨n_M_object, (fun _ h => absurd h List.not_mem_nil)⟩)⟩)⟩)⟩)⟩)⟩))
theorem n_M_step : am_mono f_M_step := am_mf_mono o_M_step
theorem g_M_step : ∀ x q, am_cal m_M_step x = some q → am_grow q.2.2 := am_mk_grow (am_cb_gr (List.forall_mem_cons.mpr ⟨h_M_put, (List.forall_mem_cons.mpr ⟨h_M_local, (List.forall_mem_cons.mpr ⟨h_M_take, (List.forall_mem_cons.mpr ⟨h_M_call, (List.forall_mem_cons.mpr ⟨h_M_leave, (List.forall_mem_cons.mpr ⟨h_M_object, (fun _ h => absurd h List.not_mem_nil)⟩)⟩)⟩)⟩)⟩)⟩))
theorem h_M_step : am_grow f_M_step := am_mf_grow g_M_step
def y_M_run : MethodName := ⟨"PatchedMachineModel", "run", "(I)I"⟩
def co_M_run : List (Nat × Instr) := [(0, .aload_n 0), (1, .getfield 182), (4, .iconst 1), (5, .if_icmp .ne 14), (8, .iload_n 1), (9, .iconst 1), (10, .sipush 300), (13, .invokestatic 89), (16, .ifCond .ne 5), (19, .iconst (-1)), (20, .ireturn), (21, .iconst 0), (22, .istore_n 2), (23, .iload_n 2), (24, .iload_n 1), (25, .if_icmp .ge 38), (28, .aload_n 0), (29, .getfield 182), (32, .iconst 1), (33, .if_icmp .ne 30), (36, .aload_n 0), (37, .invokevirtual 191), (40, .iinc 2 1), (43, .aload_n 0), (44, .getfield 182), (47, .iconst 1), (48, .if_icmp .eq 8), (51, .aload_n 0), (52, .iconst 0), (53, .putfield 157), (56, .aload_n 0), (57, .invokevirtual 154), (60, .goto (-37)), (63, .iload_n 2), (64, .ireturn)]
def fl_M_run : List (Nat × Nat × Nat × Nat) := [(182, 10, 19, 0), (157, 10, 21, 0)]
def cb_M_run : List (Instr × Nat × Nat × Option Nat × am_F) := [(.invokestatic 89, 89, 3, none, f_M_in), (.invokevirtual 191, 191, 1, (some 10), f_M_step), (.invokevirtual 154, 154, 1, (some 10), f_M_settle)]
def m_M_run : am_M := am_mk co_M_run fl_M_run (cb_M_run.map (fun z => z.2)) [] [] none 0
def f_M_run : am_F := am_mf m_M_run 2
theorem o_M_run : am_ok m_M_run := am_mk_ok (am_cb_ok (List.forall_mem_cons.mpr ⟨n_M_in, (List.forall_mem_cons.mpr ⟨n_M_step, (List.forall_mem_cons.mpr ⟨n_M_settle, (fun _ h => absurd h List.not_mem_nil)⟩)⟩)⟩))
theorem n_M_run : am_mono f_M_run := am_mf_mono o_M_run
theorem g_M_run : ∀ x q, am_cal m_M_run x = some q → am_grow q.2.2 := am_mk_grow (am_cb_gr (List.forall_mem_cons.mpr ⟨h_M_in, (List.forall_mem_cons.mpr ⟨h_M_step, (List.forall_mem_cons.mpr ⟨h_M_settle, (fun _ h => absurd h List.not_mem_nil)⟩)⟩)⟩))
theorem h_M_run : am_grow f_M_run := am_mf_grow g_M_run
def y_M_status : MethodName := ⟨"PatchedMachineModel", "status", "()I"⟩
def co_M_status : List (Nat × Instr) := [(0, .aload_n 0), (1, .getfield 182), (4, .ireturn)]
def fl_M_status : List (Nat × Nat × Nat × Nat) := [(182, 10, 19, 0)]
def cb_M_status : List (Instr × Nat × Nat × Option Nat × am_F) := []
def m_M_status : am_M := am_mk co_M_status fl_M_status (cb_M_status.map (fun z => z.2)) [] [] none 0
def f_M_status : am_F := am_mf m_M_status 1
theorem o_M_status : am_ok m_M_status := am_mk_ok (am_cb_ok (fun _ h => absurd h List.not_mem_nil))
theorem n_M_status : am_mono f_M_status := am_mf_mono o_M_status
theorem g_M_status : ∀ x q, am_cal m_M_status x = some q → am_grow q.2.2 := am_mk_grow (am_cb_gr (fun _ h => absurd h List.not_mem_nil))
theorem h_M_status : am_grow f_M_status := am_mf_grow g_M_status
def y_M_result : MethodName := ⟨"PatchedMachineModel", "result", "()I"⟩
def co_M_result : List (Nat × Instr) := [(0, .aload_n 0), (1, .getfield 182), (4, .iconst 2), (5, .if_icmp .ne 10), (8, .aload_n 0), (9, .getfield 185), (12, .goto 4), (15, .iconst 0), (16, .ireturn)]
def fl_M_result : List (Nat × Nat × Nat × Nat) := [(182, 10, 19, 0), (185, 10, 20, 0)]
def cb_M_result : List (Instr × Nat × Nat × Option Nat × am_F) := []
def m_M_result : am_M := am_mk co_M_result fl_M_result (cb_M_result.map (fun z => z.2)) [] [] none 0
def f_M_result : am_F := am_mf m_M_result 1
theorem o_M_result : am_ok m_M_result := am_mk_ok (am_cb_ok (fun _ h => absurd h List.not_mem_nil))
theorem n_M_result : am_mono f_M_result := am_mf_mono o_M_result
theorem g_M_result : ∀ x q, am_cal m_M_result x = some q → am_grow q.2.2 := am_mk_grow (am_cb_gr (fun _ h => absurd h List.not_mem_nil))
theorem h_M_result : am_grow f_M_result := am_mf_grow g_M_result
def y_M_depth : MethodName := ⟨"PatchedMachineModel", "depth", "()I"⟩
def co_M_depth : List (Nat × Instr) := [(0, .aload_n 0), (1, .getfield 157), (4, .ireturn)]
def fl_M_depth : List (Nat × Nat × Nat × Nat) := [(157, 10, 21, 0)]
def cb_M_depth : List (Instr × Nat × Nat × Option Nat × am_F) := []
def m_M_depth : am_M := am_mk co_M_depth fl_M_depth (cb_M_depth.map (fun z => z.2)) [] [] none 0
def f_M_depth : am_F := am_mf m_M_depth 1
theorem o_M_depth : am_ok m_M_depth := am_mk_ok (am_cb_ok (fun _ h => absurd h List.not_mem_nil))
theorem n_M_depth : am_mono f_M_depth := am_mf_mono o_M_depth
theorem g_M_depth : ∀ x q, am_cal m_M_depth x = some q → am_grow q.2.2 := am_mk_grow (am_cb_gr (fun _ h => absurd h List.not_mem_nil))
theorem h_M_depth : am_grow f_M_depth := am_mf_grow g_M_depth
def y_M_frame : MethodName := ⟨"PatchedMachineModel", "frame", "(I)I"⟩
def co_M_frame : List (Nat × Instr) := [(0, .iload_n 1), (1, .ifCond .lt 11), (4, .iload_n 1), (5, .aload_n 0), (6, .getfield 157), (9, .if_icmp .lt 5), (12, .iconst (-1)), (13, .ireturn), (14, .aload_n 0), (15, .getfield 157), (18, .iconst 1), (19, .isub), (20, .iload_n 1), (21, .isub), (22, .istore_n 2), (23, .bipush 100), (25, .aload_n 0), (26, .getfield 55), (29, .iload_n 2), (30, .iaload), (31, .imul), (32, .aload_n 0), (33, .getfield 58), (36, .iload_n 2), (37, .iaload), (38, .iadd), (39, .ireturn)]
def fl_M_frame : List (Nat × Nat × Nat × Nat) := [(157, 10, 21, 0), (55, 10, 22, 2), (58, 10, 23, 2)]
def cb_M_frame : List (Instr × Nat × Nat × Option Nat × am_F) := []
def m_M_frame : am_M := am_mk co_M_frame fl_M_frame (cb_M_frame.map (fun z => z.2)) [] [] none 0
def f_M_frame : am_F := am_mf m_M_frame 2
theorem o_M_frame : am_ok m_M_frame := am_mk_ok (am_cb_ok (fun _ h => absurd h List.not_mem_nil))
theorem n_M_frame : am_mono f_M_frame := am_mf_mono o_M_frame
theorem g_M_frame : ∀ x q, am_cal m_M_frame x = some q → am_grow q.2.2 := am_mk_grow (am_cb_gr (fun _ h => absurd h List.not_mem_nil))
theorem h_M_frame : am_grow f_M_frame := am_mf_grow g_M_frame
def y_M_output : MethodName := ⟨"PatchedMachineModel", "output", "(I)I"⟩
def co_M_output : List (Nat × Instr) := [(0, .iload_n 1), (1, .iconst 0), (2, .bipush 15), (4, .invokestatic 89), (7, .ifCond .eq 11), (10, .iload_n 1), (11, .aload_n 0), (12, .getfield 207), (15, .if_icmp .lt 7), (18, .iconst 0), (19, .goto 19), (22, .aload_n 0), (23, .getfield 86), (26, .aload_n 0), (27, .getfield 207), (30, .iconst 1), (31, .isub), (32, .iload_n 1), (33, .isub), (34, .bipush 15), (36, .iand), (37, .iaload), (38, .ireturn)]
def fl_M_output : List (Nat × Nat × Nat × Nat) := [(207, 10, 33, 0), (86, 10, 32, 2)]
def cb_M_output : List (Instr × Nat × Nat × Option Nat × am_F) := [(.invokestatic 89, 89, 3, none, f_M_in)]
def m_M_output : am_M := am_mk co_M_output fl_M_output (cb_M_output.map (fun z => z.2)) [] [] none 0
def f_M_output : am_F := am_mf m_M_output 2
theorem o_M_output : am_ok m_M_output := am_mk_ok (am_cb_ok (List.forall_mem_cons.mpr ⟨n_M_in, (fun _ h => absurd h List.not_mem_nil)⟩))
theorem n_M_output : am_mono f_M_output := am_mf_mono o_M_output
theorem g_M_output : ∀ x q, am_cal m_M_output x = some q → am_grow q.2.2 := am_mk_grow (am_cb_gr (List.forall_mem_cons.mpr ⟨h_M_in, (fun _ h => absurd h List.not_mem_nil)⟩))
theorem h_M_output : am_grow f_M_output := am_mf_grow g_M_output
def y_M_outputs : MethodName := ⟨"PatchedMachineModel", "outputs", "()I"⟩
def co_M_outputs : List (Nat × Instr) := [(0, .aload_n 0), (1, .getfield 207), (4, .ireturn)]
def fl_M_outputs : List (Nat × Nat × Nat × Nat) := [(207, 10, 33, 0)]
def cb_M_outputs : List (Instr × Nat × Nat × Option Nat × am_F) := []
def m_M_outputs : am_M := am_mk co_M_outputs fl_M_outputs (cb_M_outputs.map (fun z => z.2)) [] [] none 0
def f_M_outputs : am_F := am_mf m_M_outputs 1
theorem o_M_outputs : am_ok m_M_outputs := am_mk_ok (am_cb_ok (fun _ h => absurd h List.not_mem_nil))
theorem n_M_outputs : am_mono f_M_outputs := am_mf_mono o_M_outputs
theorem g_M_outputs : ∀ x q, am_cal m_M_outputs x = some q → am_grow q.2.2 := am_mk_grow (am_cb_gr (fun _ h => absurd h List.not_mem_nil))
theorem h_M_outputs : am_grow f_M_outputs := am_mf_grow g_M_outputs
def y_M_shape : MethodName := ⟨"PatchedMachineModel", "shape", "(II)I"⟩
def co_M_shape : List (Nat × Instr) := [(0, .iload_n 1), (1, .iconst 1), (2, .iconst 3), (3, .invokestatic 89), (6, .ifCond .eq 20), (9, .iload_n 2), (10, .iconst (-1)), (11, .if_icmp .lt 15), (14, .iload_n 2), (15, .aload_n 0), (16, .getfield 7), (19, .iload_n 1), (20, .iconst 1), (21, .isub), (22, .iaload), (23, .if_icmp .lt 5), (26, .iconst (-1)), (27, .ireturn), (28, .iload_n 2), (29, .iconst (-1)), (30, .if_icmp .ne 14), (33, .aload_n 0), (34, .getfield 7), (37, .iload_n 1), (38, .iconst 1), (39, .isub), (40, .iaload), (41, .goto 31), (44, .bipush 16), (46, .aload_n 0), (47, .getfield 13), (50, .iconst 4), (51, .iload_n 1), (52, .iconst 1), (53, .isub), (54, .imul), (55, .iload_n 2), (56, .iadd), (57, .iaload), (58, .imul), (59, .aload_n 0), (60, .getfield 16), (63, .iconst 4), (64, .iload_n 1), (65, .iconst 1), (66, .isub), (67, .imul), (68, .iload_n 2), (69, .iadd), (70, .iaload), (71, .iadd), (72, .ireturn)]
def fl_M_shape : List (Nat × Nat × Nat × Nat) := [(7, 10, 0, 2), (13, 10, 1, 2), (16, 10, 2, 2)]
def cb_M_shape : List (Instr × Nat × Nat × Option Nat × am_F) := [(.invokestatic 89, 89, 3, none, f_M_in)]
def m_M_shape : am_M := am_mk co_M_shape fl_M_shape (cb_M_shape.map (fun z => z.2)) [] [] none 0
def f_M_shape : am_F := am_mf m_M_shape 3
theorem o_M_shape : am_ok m_M_shape := am_mk_ok (am_cb_ok (List.forall_mem_cons.mpr ⟨n_M_in, (fun _ h => absurd h List.not_mem_nil)⟩))
theorem n_M_shape : am_mono f_M_shape := am_mf_mono o_M_shape
theorem g_M_shape : ∀ x q, am_cal m_M_shape x = some q → am_grow q.2.2 := am_mk_grow (am_cb_gr (List.forall_mem_cons.mpr ⟨h_M_in, (fun _ h => absurd h List.not_mem_nil)⟩))
theorem h_M_shape : am_grow f_M_shape := am_mf_grow g_M_shape
end
section
/-! printed by gen.py: contracts -/
theorem am_noG {l : Launch} {y : MethodName} {cl : List vw_C} {cc : ByteArray} {nL : Nat} {ar : List (Nat × Nat)} {al : List Nat} (h : ar.all (fun q => al.contains q.1) = true) : ∀ x t, ar.lookup x = some t → x ∉ al → am_Kg l y cl cc nL x t := fun x t hx hn => by
  have := List.all_eq_true.mp h _ (am_lookup_mem hx)
  exact absurd (by simpa using this) hn
end
section
/-! printed by gen.py: contracts -/
def t_L_init : List Jvm.Cond := [.methodLink "PatchedMachine$Layout" 3 Lib.objectInit, .instanceMethod Lib.objectInit, .code Lib.objectInit ⟨#[0xb1]⟩ 1 none, .arrayClass .int, .fieldLink "PatchedMachine$Layout" 9 "PatchedMachine$Layout" "names" "[I", .laysFinal "PatchedMachine$Layout" "PatchedMachine$Layout" "names" "[I", .laysFinal "PatchedMachine$Layout" "PatchedMachine$Layout" "types" "[I", .laysFinal "PatchedMachine$Layout" "PatchedMachine$Layout" "sources" "[I", .lays "PatchedMachine$Layout" "PatchedMachine$Layout" "size" "I", .fieldLink "PatchedMachine$Layout" 15 "PatchedMachine$Layout" "types" "[I", .fieldLink "PatchedMachine$Layout" 18 "PatchedMachine$Layout" "sources" "[I", .fieldLink "PatchedMachine$Layout" 21 "PatchedMachine$Layout" "size" "I"]
set_option maxRecDepth 100000 in
theorem u_L_init : ∀ w ∈ t_L_init, w ∈ am_tb := am_subI [140, 124, 125, 160, 141, 151, 153, 155, 157, 143, 146, 148] (by decide +kernel) (by decide +kernel)
set_option maxRecDepth 100000 in
theorem s_L_init (l : Launch) : am_Sd l am_cl y_L_init (am_ws y_L_init prog_5_method_1_code 1 none) 1 20 f_L_init :=
  am_meth (by decide +kernel) (Or.inr (Or.inr (Or.inl ⟨rfl, rfl⟩))) rfl (by decide) am_htc g_L_init (am_ctx (cb := cb_L_init) t_L_init [(3, .invokespecial 3)] "PatchedMachine" true [9, 15, 18, 21] [] u_L_init rfl (by decide +kernel) (fun _ => rfl)
    (List.forall_mem_cons.mpr ⟨am_KO u_L_init (by decide +kernel) (by decide +kernel), (fun _ h => absurd h List.not_mem_nil)⟩) (fun x t h => by cases h) (by decide +kernel))
def t_R_init : List Jvm.Cond := [.methodLink "PatchedMachine$Routine" 3 Lib.objectInit, .instanceMethod Lib.objectInit, .code Lib.objectInit ⟨#[0xb1]⟩ 1 none, .arrayClass .int, .fieldLink "PatchedMachine$Routine" 9 "PatchedMachine$Routine" "locals" "[I", .laysFinal "PatchedMachine$Routine" "PatchedMachine$Routine" "locals" "[I", .laysFinal "PatchedMachine$Routine" "PatchedMachine$Routine" "ops" "[I", .laysFinal "PatchedMachine$Routine" "PatchedMachine$Routine" "xs" "[I", .laysFinal "PatchedMachine$Routine" "PatchedMachine$Routine" "ys" "[I", .lays "PatchedMachine$Routine" "PatchedMachine$Routine" "parameters" "I", .lays "PatchedMachine$Routine" "PatchedMachine$Routine" "result" "I", .lays "PatchedMachine$Routine" "PatchedMachine$Routine" "length" "I", .fieldLink "PatchedMachine$Routine" 15 "PatchedMachine$Routine" "ops" "[I", .fieldLink "PatchedMachine$Routine" 18 "PatchedMachine$Routine" "xs" "[I", .fieldLink "PatchedMachine$Routine" 21 "PatchedMachine$Routine" "ys" "[I", .fieldLink "PatchedMachine$Routine" 24 "PatchedMachine$Routine" "parameters" "I", .fieldLink "PatchedMachine$Routine" 28 "PatchedMachine$Routine" "result" "I", .fieldLink "PatchedMachine$Routine" 31 "PatchedMachine$Routine" "length" "I"]
set_option maxRecDepth 100000 in
theorem u_R_init : ∀ w ∈ t_R_init, w ∈ am_tb := am_subI [165, 124, 125, 160, 166, 188, 190, 192, 194, 196, 198, 200, 169, 172, 175, 178, 182, 186] (by decide +kernel) (by decide +kernel)
set_option maxRecDepth 100000 in
theorem s_R_init (l : Launch) : am_Sd l am_cl y_R_init (am_ws y_R_init prog_9_method_1_code 1 none) 1 20 f_R_init :=
  am_meth (by decide +kernel) (Or.inr (Or.inr (Or.inl ⟨rfl, rfl⟩))) rfl (by decide) am_htc g_R_init (am_ctx (cb := cb_R_init) t_R_init [(3, .invokespecial 3)] "PatchedMachine" true [9, 15, 18, 21, 24, 28, 31] [] u_R_init rfl (by decide +kernel) (fun _ => rfl)
    (List.forall_mem_cons.mpr ⟨am_KO u_R_init (by decide +kernel) (by decide +kernel), (fun _ h => absurd h List.not_mem_nil)⟩) (fun x t h => by cases h) (by decide +kernel))
def t_P_init : List Jvm.Cond := [.methodLink "PatchedMachine$Program" 3 Lib.objectInit, .instanceMethod Lib.objectInit, .code Lib.objectInit ⟨#[0xb1]⟩ 1 none, .classLink "PatchedMachine$Program" 9 "PatchedMachine$Layout", .arrayOver (.object "PatchedMachine$Layout"), .fieldLink "PatchedMachine$Program" 11 "PatchedMachine$Program" "layouts" "[LPatchedMachine$Layout;", .laysFinal "PatchedMachine$Program" "PatchedMachine$Program" "layouts" "[LPatchedMachine$Layout;", .laysFinal "PatchedMachine$Program" "PatchedMachine$Program" "routines" "[LPatchedMachine$Routine;", .lays "PatchedMachine$Program" "PatchedMachine$Program" "touchedClasses" "I", .lays "PatchedMachine$Program" "PatchedMachine$Program" "touchedMethods" "I", .lays "PatchedMachine$Program" "PatchedMachine$Program" "restrictedMethods" "I", .classLink "PatchedMachine$Program" 17 "PatchedMachine$Routine", .arrayOver (.object "PatchedMachine$Routine"), .fieldLink "PatchedMachine$Program" 19 "PatchedMachine$Program" "routines" "[LPatchedMachine$Routine;", .fieldLink "PatchedMachine$Program" 23 "PatchedMachine$Program" "touchedClasses" "I", .fieldLink "PatchedMachine$Program" 27 "PatchedMachine$Program" "touchedMethods" "I", .fieldLink "PatchedMachine$Program" 30 "PatchedMachine$Program" "restrictedMethods" "I", .instantiable "PatchedMachine$Layout" 4, .initialized "PatchedMachine$Layout", .laysFinal "PatchedMachine$Layout" "PatchedMachine$Layout" "names" "[I", .laysFinal "PatchedMachine$Layout" "PatchedMachine$Layout" "types" "[I", .laysFinal "PatchedMachine$Layout" "PatchedMachine$Layout" "sources" "[I", .lays "PatchedMachine$Layout" "PatchedMachine$Layout" "size" "I", .methodLinkNest "PatchedMachine$Program" 33 y_L_init "PatchedMachine", .code y_L_init prog_5_method_1_code 1 none, .instanceMethod y_L_init, .instantiable "PatchedMachine$Routine" 7, .initialized "PatchedMachine$Routine", .laysFinal "PatchedMachine$Routine" "PatchedMachine$Routine" "locals" "[I", .laysFinal "PatchedMachine$Routine" "PatchedMachine$Routine" "ops" "[I", .laysFinal "PatchedMachine$Routine" "PatchedMachine$Routine" "xs" "[I", .laysFinal "PatchedMachine$Routine" "PatchedMachine$Routine" "ys" "[I", .lays "PatchedMachine$Routine" "PatchedMachine$Routine" "parameters" "I", .lays "PatchedMachine$Routine" "PatchedMachine$Routine" "result" "I", .lays "PatchedMachine$Routine" "PatchedMachine$Routine" "length" "I", .methodLinkNest "PatchedMachine$Program" 34 y_R_init "PatchedMachine", .code y_R_init prog_9_method_1_code 1 none, .instanceMethod y_R_init]
set_option maxRecDepth 100000 in
theorem u_P_init : ∀ w ∈ t_P_init, w ∈ am_tb := am_subI [131, 124, 125, 132, 133, 203, 216, 218, 220, 222, 224, 134, 135, 208, 212, 213, 214, 136, 107, 151, 153, 155, 157, 137, 139, 138, 161, 108, 188, 190, 192, 194, 196, 198, 200, 162, 164, 163] (by decide +kernel) (by decide +kernel)
set_option maxRecDepth 100000 in
theorem s_P_init (l : Launch) : am_Sd l am_cl y_P_init (am_ws y_P_init prog_8_method_1_code 2 none) 2 40 f_P_init :=
  am_meth (by decide +kernel) (Or.inr (Or.inr (Or.inl ⟨rfl, rfl⟩))) rfl (by decide) am_htc g_P_init (am_ctx (cb := cb_P_init) t_P_init [(3, .invokespecial 3), (33, .invokespecial 33), (34, .invokespecial 34)] "PatchedMachine" true [11, 19, 23, 27, 30] [9, 17] u_P_init rfl (by decide +kernel) (fun _ => rfl)
    (List.forall_mem_cons.mpr ⟨am_KO u_P_init (by decide +kernel) (by decide +kernel), (List.forall_mem_cons.mpr ⟨am_KIN (host := "PatchedMachine") (na := 0) u_P_init (s_L_init l) rfl (by decide +kernel) (by decide +kernel), (List.forall_mem_cons.mpr ⟨am_KIN (host := "PatchedMachine") (na := 0) u_P_init (s_R_init l) rfl (by decide +kernel) (by decide +kernel), (fun _ h => absurd h List.not_mem_nil)⟩)⟩)⟩) (am_noG (by decide)) (by decide +kernel))
def t_Q_init : List Jvm.Cond := [.methodLink "PatchedMachine$PatchLine" 3 Lib.objectInit, .instanceMethod Lib.objectInit, .code Lib.objectInit ⟨#[0xb1]⟩ 1 none, .classLink "PatchedMachine$PatchLine" 11 "PatchedMachine$Program", .arrayOver (.object "PatchedMachine$Program"), .fieldLink "PatchedMachine$PatchLine" 13 "PatchedMachine$PatchLine" "ring" "[LPatchedMachine$Program;", .laysFinal "PatchedMachine$PatchLine" "PatchedMachine$PatchLine" "ring" "[LPatchedMachine$Program;", .lays "PatchedMachine$PatchLine" "PatchedMachine$PatchLine" "first" "I", .lays "PatchedMachine$PatchLine" "PatchedMachine$PatchLine" "length" "I", .fieldLink "PatchedMachine$PatchLine" 17 "PatchedMachine$PatchLine" "first" "I", .fieldLink "PatchedMachine$PatchLine" 21 "PatchedMachine$PatchLine" "length" "I", .instantiable "PatchedMachine$Program" 5, .initialized "PatchedMachine$Program", .laysFinal "PatchedMachine$Program" "PatchedMachine$Program" "layouts" "[LPatchedMachine$Layout;", .laysFinal "PatchedMachine$Program" "PatchedMachine$Program" "routines" "[LPatchedMachine$Routine;", .lays "PatchedMachine$Program" "PatchedMachine$Program" "touchedClasses" "I", .lays "PatchedMachine$Program" "PatchedMachine$Program" "touchedMethods" "I", .lays "PatchedMachine$Program" "PatchedMachine$Program" "restrictedMethods" "I", .methodLinkNest "PatchedMachine$PatchLine" 24 y_P_init "PatchedMachine", .code y_P_init prog_8_method_1_code 2 none, .instanceMethod y_P_init]
set_option maxRecDepth 100000 in
theorem u_Q_init : ∀ w ∈ t_Q_init, w ∈ am_tb := am_subI [232, 124, 125, 233, 234, 236, 240, 242, 244, 237, 238, 127, 106, 216, 218, 220, 222, 224, 235, 130, 129] (by decide +kernel) (by decide +kernel)
set_option maxRecDepth 100000 in
theorem s_Q_init (l : Launch) : am_Sd l am_cl y_Q_init (am_ws y_Q_init prog_6_method_1_code 2 none) 3 61 f_Q_init :=
  am_meth (by decide +kernel) (Or.inr (Or.inr (Or.inl ⟨rfl, rfl⟩))) rfl (by decide) am_htc g_Q_init (am_ctx (cb := cb_Q_init) t_Q_init [(3, .invokespecial 3), (24, .invokespecial 24)] "PatchedMachine" true [13, 17, 21] [11] u_Q_init rfl (by decide +kernel) (fun _ => rfl)
    (List.forall_mem_cons.mpr ⟨am_KO u_Q_init (by decide +kernel) (by decide +kernel), (List.forall_mem_cons.mpr ⟨am_KIN (host := "PatchedMachine") (na := 0) u_Q_init (s_P_init l) rfl (by decide +kernel) (by decide +kernel), (fun _ h => absurd h List.not_mem_nil)⟩)⟩) (am_noG (by decide)) (by decide +kernel))
def t_C_init : List Jvm.Cond := [.methodLink "PatchedMachine$Checker" 3 Lib.objectInit, .instanceMethod Lib.objectInit, .code Lib.objectInit ⟨#[0xb1]⟩ 1 none, .arrayClass .int, .fieldLink "PatchedMachine$Checker" 9 "PatchedMachine$Checker" "stack" "[I", .laysFinal "PatchedMachine$Checker" "PatchedMachine$Checker" "stack" "[I", .lays "PatchedMachine$Checker" "PatchedMachine$Checker" "height" "I", .lays "PatchedMachine$Checker" "PatchedMachine$Checker" "bad" "Z", .fieldLink "PatchedMachine$Checker" 15 "PatchedMachine$Checker" "height" "I", .fieldLink "PatchedMachine$Checker" 19 "PatchedMachine$Checker" "bad" "Z"]
set_option maxRecDepth 100000 in
theorem u_C_init : ∀ w ∈ t_C_init, w ∈ am_tb := am_subI [252, 124, 125, 160, 253, 256, 258, 260, 254, 255] (by decide +kernel) (by decide +kernel)
set_option maxRecDepth 100000 in
theorem s_C_init (l : Launch) : am_Sd l am_cl y_C_init (am_ws y_C_init prog_2_method_1_code 1 none) 1 20 f_C_init :=
  am_meth (by decide +kernel) (Or.inr (Or.inr (Or.inl ⟨rfl, rfl⟩))) rfl (by decide) am_htc g_C_init (am_ctx (cb := cb_C_init) t_C_init [(3, .invokespecial 3)] "PatchedMachine" true [9, 15, 19] [] u_C_init rfl (by decide +kernel) (fun _ => rfl)
    (List.forall_mem_cons.mpr ⟨am_KO u_C_init (by decide +kernel) (by decide +kernel), (fun _ h => absurd h List.not_mem_nil)⟩) (fun x t h => by cases h) (by decide +kernel))
def t_H_init : List Jvm.Cond := [.methodLink "PatchedMachine$Heap" 3 Lib.objectInit, .instanceMethod Lib.objectInit, .code Lib.objectInit ⟨#[0xb1]⟩ 1 none, .arrayClass .int, .fieldLink "PatchedMachine$Heap" 9 "PatchedMachine$Heap" "classes" "[I", .laysFinal "PatchedMachine$Heap" "PatchedMachine$Heap" "classes" "[I", .laysFinal "PatchedMachine$Heap" "PatchedMachine$Heap" "values" "[[I", .laysFinal "PatchedMachine$Heap" "PatchedMachine$Heap" "newValues" "[I", .laysFinal "PatchedMachine$Heap" "PatchedMachine$Heap" "isReached" "[Z", .laysFinal "PatchedMachine$Heap" "PatchedMachine$Heap" "reachedRows" "[I", .lays "PatchedMachine$Heap" "PatchedMachine$Heap" "reachedCount" "I", .lays "PatchedMachine$Heap" "PatchedMachine$Heap" "count" "I", .classLink "PatchedMachine$Heap" 15 "[[I", .arrayOver (.array .int), .fieldLink "PatchedMachine$Heap" 17 "PatchedMachine$Heap" "values" "[[I", .fieldLink "PatchedMachine$Heap" 20 "PatchedMachine$Heap" "newValues" "[I", .arrayClass .boolean, .fieldLink "PatchedMachine$Heap" 23 "PatchedMachine$Heap" "isReached" "[Z", .fieldLink "PatchedMachine$Heap" 27 "PatchedMachine$Heap" "reachedRows" "[I", .fieldLink "PatchedMachine$Heap" 30 "PatchedMachine$Heap" "reachedCount" "I", .fieldLink "PatchedMachine$Heap" 34 "PatchedMachine$Heap" "count" "I"]
set_option maxRecDepth 100000 in
theorem u_H_init : ∀ w ∈ t_H_init, w ∈ am_tb := am_subI [276, 124, 125, 160, 279, 287, 289, 291, 293, 295, 297, 299, 277, 278, 280, 281, 302, 282, 283, 284, 285] (by decide +kernel) (by decide +kernel)
set_option maxRecDepth 100000 in
theorem s_H_init (l : Launch) : am_Sd l am_cl y_H_init (am_ws y_H_init prog_4_method_1_code 1 none) 1 20 f_H_init :=
  am_meth (by decide +kernel) (Or.inr (Or.inr (Or.inl ⟨rfl, rfl⟩))) rfl (by decide) am_htc g_H_init (am_ctx (cb := cb_H_init) t_H_init [(3, .invokespecial 3)] "PatchedMachine" true [9, 17, 20, 23, 27, 30, 34] [] u_H_init rfl (by decide +kernel) (fun _ => rfl)
    (List.forall_mem_cons.mpr ⟨am_KO u_H_init (by decide +kernel) (by decide +kernel), (fun _ h => absurd h List.not_mem_nil)⟩) (fun x t h _ => by have h1 := am_lookup_mem h; simp only [List.mem_singleton, Prod.mk.injEq] at h1; obtain ⟨rfl, rfl⟩ := h1; exact am_KG u_H_init (by decide +kernel)) (by decide +kernel))
def t_O_init : List Jvm.Cond := [.methodLink "PatchedMachine$Printer" 3 Lib.objectInit, .instanceMethod Lib.objectInit, .code Lib.objectInit ⟨#[0xb1]⟩ 1 none, .arrayClass .int, .fieldLink "PatchedMachine$Printer" 9 "PatchedMachine$Printer" "kept" "[I", .laysFinal "PatchedMachine$Printer" "PatchedMachine$Printer" "kept" "[I", .lays "PatchedMachine$Printer" "PatchedMachine$Printer" "count" "I", .fieldLink "PatchedMachine$Printer" 15 "PatchedMachine$Printer" "count" "I"]
set_option maxRecDepth 100000 in
theorem u_O_init : ∀ w ∈ t_O_init, w ∈ am_tb := am_subI [308, 124, 125, 160, 309, 312, 314, 310] (by decide +kernel) (by decide +kernel)
set_option maxRecDepth 100000 in
theorem s_O_init (l : Launch) : am_Sd l am_cl y_O_init (am_ws y_O_init prog_7_method_1_code 1 none) 1 20 f_O_init :=
  am_meth (by decide +kernel) (Or.inr (Or.inr (Or.inl ⟨rfl, rfl⟩))) rfl (by decide) am_htc g_O_init (am_ctx (cb := cb_O_init) t_O_init [(3, .invokespecial 3)] "PatchedMachine" true [9, 15] [] u_O_init rfl (by decide +kernel) (fun _ => rfl)
    (List.forall_mem_cons.mpr ⟨am_KO u_O_init (by decide +kernel) (by decide +kernel), (fun _ h => absurd h List.not_mem_nil)⟩) (fun x t h => by cases h) (by decide +kernel))
def t_F_init : List Jvm.Cond := [.methodLink "PatchedMachine$Frame" 3 Lib.objectInit, .instanceMethod Lib.objectInit, .code Lib.objectInit ⟨#[0xb1]⟩ 1 none, .arrayClass .int, .fieldLink "PatchedMachine$Frame" 9 "PatchedMachine$Frame" "locals" "[I", .laysFinal "PatchedMachine$Frame" "PatchedMachine$Frame" "locals" "[I", .laysFinal "PatchedMachine$Frame" "PatchedMachine$Frame" "stack" "[I", .laysFinal "PatchedMachine$Frame" "PatchedMachine$Frame" "stackTypes" "[I", .lays "PatchedMachine$Frame" "PatchedMachine$Frame" "height" "I", .lays "PatchedMachine$Frame" "PatchedMachine$Frame" "method" "I", .lays "PatchedMachine$Frame" "PatchedMachine$Frame" "place" "I", .fieldLink "PatchedMachine$Frame" 15 "PatchedMachine$Frame" "stack" "[I", .fieldLink "PatchedMachine$Frame" 18 "PatchedMachine$Frame" "stackTypes" "[I", .fieldLink "PatchedMachine$Frame" 21 "PatchedMachine$Frame" "height" "I", .fieldLink "PatchedMachine$Frame" 25 "PatchedMachine$Frame" "method" "I", .fieldLink "PatchedMachine$Frame" 28 "PatchedMachine$Frame" "place" "I"]
set_option maxRecDepth 100000 in
theorem u_F_init : ∀ w ∈ t_F_init, w ∈ am_tb := am_subI [321, 124, 125, 160, 322, 336, 338, 340, 342, 344, 346, 324, 326, 328, 330, 333] (by decide +kernel) (by decide +kernel)
set_option maxRecDepth 100000 in
theorem s_F_init (l : Launch) : am_Sd l am_cl y_F_init (am_ws y_F_init prog_3_method_1_code 1 none) 1 20 f_F_init :=
  am_meth (by decide +kernel) (Or.inr (Or.inr (Or.inl ⟨rfl, rfl⟩))) rfl (by decide) am_htc g_F_init (am_ctx (cb := cb_F_init) t_F_init [(3, .invokespecial 3)] "PatchedMachine" true [9, 15, 18, 21, 25, 28] [] u_F_init rfl (by decide +kernel) (fun _ => rfl)
    (List.forall_mem_cons.mpr ⟨am_KO u_F_init (by decide +kernel) (by decide +kernel), (fun _ h => absurd h List.not_mem_nil)⟩) (fun x t h => by cases h) (by decide +kernel))
def t_U_init : List Jvm.Cond := [.methodLink "PatchedMachine$Runner" 3 Lib.objectInit, .instanceMethod Lib.objectInit, .code Lib.objectInit ⟨#[0xb1]⟩ 1 none, .classLink "PatchedMachine$Runner" 9 "PatchedMachine$Frame", .arrayOver (.object "PatchedMachine$Frame"), .fieldLink "PatchedMachine$Runner" 11 "PatchedMachine$Runner" "frames" "[LPatchedMachine$Frame;", .laysFinal "PatchedMachine$Runner" "PatchedMachine$Runner" "frames" "[LPatchedMachine$Frame;", .laysFinal "PatchedMachine$Runner" "PatchedMachine$Runner" "heap" "LPatchedMachine$Heap;", .laysFinal "PatchedMachine$Runner" "PatchedMachine$Runner" "printer" "LPatchedMachine$Printer;", .lays "PatchedMachine$Runner" "PatchedMachine$Runner" "depth" "I", .lays "PatchedMachine$Runner" "PatchedMachine$Runner" "status" "I", .lays "PatchedMachine$Runner" "PatchedMachine$Runner" "result" "I", .classLink "PatchedMachine$Runner" 17 "PatchedMachine$Heap", .instantiable "PatchedMachine$Heap" 7, .initialized "PatchedMachine$Heap", .laysFinal "PatchedMachine$Heap" "PatchedMachine$Heap" "classes" "[I", .laysFinal "PatchedMachine$Heap" "PatchedMachine$Heap" "values" "[[I", .laysFinal "PatchedMachine$Heap" "PatchedMachine$Heap" "newValues" "[I", .laysFinal "PatchedMachine$Heap" "PatchedMachine$Heap" "isReached" "[Z", .laysFinal "PatchedMachine$Heap" "PatchedMachine$Heap" "reachedRows" "[I", .lays "PatchedMachine$Heap" "PatchedMachine$Heap" "reachedCount" "I", .lays "PatchedMachine$Heap" "PatchedMachine$Heap" "count" "I", .methodLinkNest "PatchedMachine$Runner" 19 y_H_init "PatchedMachine", .code y_H_init prog_4_method_1_code 1 none, .instanceMethod y_H_init, .fieldLink "PatchedMachine$Runner" 20 "PatchedMachine$Runner" "heap" "LPatchedMachine$Heap;", .classLink "PatchedMachine$Runner" 24 "PatchedMachine$Printer", .instantiable "PatchedMachine$Printer" 2, .initialized "PatchedMachine$Printer", .laysFinal "PatchedMachine$Printer" "PatchedMachine$Printer" "kept" "[I", .lays "PatchedMachine$Printer" "PatchedMachine$Printer" "count" "I", .methodLinkNest "PatchedMachine$Runner" 26 y_O_init "PatchedMachine", .code y_O_init prog_7_method_1_code 1 none, .instanceMethod y_O_init, .fieldLink "PatchedMachine$Runner" 27 "PatchedMachine$Runner" "printer" "LPatchedMachine$Printer;", .fieldLink "PatchedMachine$Runner" 31 "PatchedMachine$Runner" "depth" "I", .fieldLink "PatchedMachine$Runner" 35 "PatchedMachine$Runner" "status" "I", .fieldLink "PatchedMachine$Runner" 38 "PatchedMachine$Runner" "result" "I", .instantiable "PatchedMachine$Frame" 6, .initialized "PatchedMachine$Frame", .laysFinal "PatchedMachine$Frame" "PatchedMachine$Frame" "locals" "[I", .laysFinal "PatchedMachine$Frame" "PatchedMachine$Frame" "stack" "[I", .laysFinal "PatchedMachine$Frame" "PatchedMachine$Frame" "stackTypes" "[I", .lays "PatchedMachine$Frame" "PatchedMachine$Frame" "height" "I", .lays "PatchedMachine$Frame" "PatchedMachine$Frame" "method" "I", .lays "PatchedMachine$Frame" "PatchedMachine$Frame" "place" "I", .methodLinkNest "PatchedMachine$Runner" 41 y_F_init "PatchedMachine", .code y_F_init prog_3_method_1_code 1 none, .instanceMethod y_F_init]
set_option maxRecDepth 100000 in
theorem u_U_init : ∀ w ∈ t_U_init, w ∈ am_tb := am_subI [268, 124, 125, 269, 270, 349, 361, 363, 365, 367, 369, 371, 271, 272, 112, 287, 289, 291, 293, 295, 297, 299, 273, 275, 274, 351, 303, 304, 113, 312, 314, 305, 307, 306, 353, 355, 357, 359, 317, 114, 336, 338, 340, 342, 344, 346, 318, 320, 319] (by decide +kernel) (by decide +kernel)
set_option maxRecDepth 100000 in
theorem s_U_init (l : Launch) : am_Sd l am_cl y_U_init (am_ws y_U_init prog_10_method_1_code 2 none) 2 40 f_U_init :=
  am_meth (by decide +kernel) (Or.inr (Or.inr (Or.inl ⟨rfl, rfl⟩))) rfl (by decide) am_htc g_U_init (am_ctx (cb := cb_U_init) t_U_init [(3, .invokespecial 3), (19, .invokespecial 19), (26, .invokespecial 26), (41, .invokespecial 41)] "PatchedMachine" true [11, 20, 27, 31, 35, 38] [9] u_U_init rfl (by decide +kernel) (fun _ => rfl)
    (List.forall_mem_cons.mpr ⟨am_KO u_U_init (by decide +kernel) (by decide +kernel), (List.forall_mem_cons.mpr ⟨am_KIN (host := "PatchedMachine") (na := 0) u_U_init (s_H_init l) rfl (by decide +kernel) (by decide +kernel), (List.forall_mem_cons.mpr ⟨am_KIN (host := "PatchedMachine") (na := 0) u_U_init (s_O_init l) rfl (by decide +kernel) (by decide +kernel), (List.forall_mem_cons.mpr ⟨am_KIN (host := "PatchedMachine") (na := 0) u_U_init (s_F_init l) rfl (by decide +kernel) (by decide +kernel), (fun _ h => absurd h List.not_mem_nil)⟩)⟩)⟩)⟩) (am_noG (by decide)) (by decide +kernel))
def t_X_init : List Jvm.Cond := [.methodLink "PatchedMachine" 1 Lib.objectInit, .instanceMethod Lib.objectInit, .code Lib.objectInit ⟨#[0xb1]⟩ 1 none, .classLink "PatchedMachine" 7 "PatchedMachine$Program", .instantiable "PatchedMachine$Program" 5, .initialized "PatchedMachine$Program", .laysFinal "PatchedMachine$Program" "PatchedMachine$Program" "layouts" "[LPatchedMachine$Layout;", .laysFinal "PatchedMachine$Program" "PatchedMachine$Program" "routines" "[LPatchedMachine$Routine;", .lays "PatchedMachine$Program" "PatchedMachine$Program" "touchedClasses" "I", .lays "PatchedMachine$Program" "PatchedMachine$Program" "touchedMethods" "I", .lays "PatchedMachine$Program" "PatchedMachine$Program" "restrictedMethods" "I", .methodLinkNest "PatchedMachine" 9 y_P_init "PatchedMachine", .code y_P_init prog_8_method_1_code 2 none, .instanceMethod y_P_init, .fieldLink "PatchedMachine" 10 "PatchedMachine" "draft" "LPatchedMachine$Program;", .laysFinal "PatchedMachine" "PatchedMachine" "draft" "LPatchedMachine$Program;", .laysFinal "PatchedMachine" "PatchedMachine" "line" "LPatchedMachine$PatchLine;", .laysFinal "PatchedMachine" "PatchedMachine" "checker" "LPatchedMachine$Checker;", .laysFinal "PatchedMachine" "PatchedMachine" "runner" "LPatchedMachine$Runner;", .lays "PatchedMachine" "PatchedMachine" "applied" "I", .lays "PatchedMachine" "PatchedMachine" "moved" "I", .classLink "PatchedMachine" 16 "PatchedMachine$PatchLine", .instantiable "PatchedMachine$PatchLine" 3, .initialized "PatchedMachine$PatchLine", .laysFinal "PatchedMachine$PatchLine" "PatchedMachine$PatchLine" "ring" "[LPatchedMachine$Program;", .lays "PatchedMachine$PatchLine" "PatchedMachine$PatchLine" "first" "I", .lays "PatchedMachine$PatchLine" "PatchedMachine$PatchLine" "length" "I", .methodLinkNest "PatchedMachine" 18 y_Q_init "PatchedMachine", .code y_Q_init prog_6_method_1_code 2 none, .instanceMethod y_Q_init, .fieldLink "PatchedMachine" 19 "PatchedMachine" "line" "LPatchedMachine$PatchLine;", .classLink "PatchedMachine" 23 "PatchedMachine$Checker", .instantiable "PatchedMachine$Checker" 3, .initialized "PatchedMachine$Checker", .laysFinal "PatchedMachine$Checker" "PatchedMachine$Checker" "stack" "[I", .lays "PatchedMachine$Checker" "PatchedMachine$Checker" "height" "I", .lays "PatchedMachine$Checker" "PatchedMachine$Checker" "bad" "Z", .methodLinkNest "PatchedMachine" 25 y_C_init "PatchedMachine", .code y_C_init prog_2_method_1_code 1 none, .instanceMethod y_C_init, .fieldLink "PatchedMachine" 26 "PatchedMachine" "checker" "LPatchedMachine$Checker;", .classLink "PatchedMachine" 30 "PatchedMachine$Runner", .instantiable "PatchedMachine$Runner" 6, .initialized "PatchedMachine$Runner", .laysFinal "PatchedMachine$Runner" "PatchedMachine$Runner" "frames" "[LPatchedMachine$Frame;", .laysFinal "PatchedMachine$Runner" "PatchedMachine$Runner" "heap" "LPatchedMachine$Heap;", .laysFinal "PatchedMachine$Runner" "PatchedMachine$Runner" "printer" "LPatchedMachine$Printer;", .lays "PatchedMachine$Runner" "PatchedMachine$Runner" "depth" "I", .lays "PatchedMachine$Runner" "PatchedMachine$Runner" "status" "I", .lays "PatchedMachine$Runner" "PatchedMachine$Runner" "result" "I", .methodLinkNest "PatchedMachine" 32 y_U_init "PatchedMachine", .code y_U_init prog_10_method_1_code 2 none, .instanceMethod y_U_init, .fieldLink "PatchedMachine" 33 "PatchedMachine" "runner" "LPatchedMachine$Runner;", .fieldLink "PatchedMachine" 37 "PatchedMachine" "applied" "I", .fieldLink "PatchedMachine" 41 "PatchedMachine" "moved" "I"]
set_option maxRecDepth 100000 in
theorem u_X_init : ∀ w ∈ t_X_init, w ∈ am_tb := am_subI [123, 124, 125, 126, 127, 106, 216, 218, 220, 222, 224, 128, 130, 129, 374, 380, 382, 384, 386, 388, 390, 227, 228, 109, 240, 242, 244, 229, 231, 230, 375, 247, 248, 110, 256, 258, 260, 249, 251, 250, 376, 263, 264, 111, 361, 363, 365, 367, 369, 371, 265, 267, 266, 377, 378, 379] (by decide +kernel) (by decide +kernel)
set_option maxRecDepth 100000 in
theorem s_X_init (l : Launch) : am_Sd l am_cl y_X_init (am_ws y_X_init prog_1_method_1_code 1 none) 4 82 f_X_init :=
  am_meth (by decide +kernel) (Or.inr (Or.inr (Or.inl ⟨rfl, rfl⟩))) rfl (by decide) am_htc g_X_init (am_ctx (cb := cb_X_init) t_X_init [(1, .invokespecial 1), (9, .invokespecial 9), (18, .invokespecial 18), (25, .invokespecial 25), (32, .invokespecial 32)] "PatchedMachine" true [10, 19, 26, 33, 37, 41] [] u_X_init rfl (by decide +kernel) (fun _ => rfl)
    (List.forall_mem_cons.mpr ⟨am_KO u_X_init (by decide +kernel) (by decide +kernel), (List.forall_mem_cons.mpr ⟨am_KIN (host := "PatchedMachine") (na := 0) u_X_init (s_P_init l) rfl (by decide +kernel) (by decide +kernel), (List.forall_mem_cons.mpr ⟨am_KIN (host := "PatchedMachine") (na := 0) u_X_init (s_Q_init l) rfl (by decide +kernel) (by decide +kernel), (List.forall_mem_cons.mpr ⟨am_KIN (host := "PatchedMachine") (na := 0) u_X_init (s_C_init l) rfl (by decide +kernel) (by decide +kernel), (List.forall_mem_cons.mpr ⟨am_KIN (host := "PatchedMachine") (na := 0) u_X_init (s_U_init l) rfl (by decide +kernel) (by decide +kernel), (fun _ h => absurd h List.not_mem_nil)⟩)⟩)⟩)⟩)⟩) (fun x t h => by cases h) (by decide +kernel))
def t_X_isClass : List Jvm.Cond := []
set_option maxRecDepth 100000 in
theorem u_X_isClass : ∀ w ∈ t_X_isClass, w ∈ am_tb := am_subI [] (by decide +kernel) (by decide +kernel)
set_option maxRecDepth 100000 in
theorem s_X_isClass (l : Launch) : am_Sd l am_cl y_X_isClass (am_ws y_X_isClass prog_1_method_23_code 1 (some .boolean)) 0 0 f_X_isClass :=
  am_meth (by decide +kernel) (Or.inr (Or.inl ⟨rfl, rfl⟩)) rfl (by decide) am_htc g_X_isClass (am_ctx (cb := cb_X_isClass) t_X_isClass [] "PatchedMachine" false [] [] u_X_isClass rfl (by decide +kernel) (fun h => by cases h)
    (fun _ h => absurd h List.not_mem_nil) (fun x t h => by cases h) (by decide +kernel))
def t_L_clear : List Jvm.Cond := [.fieldLink "PatchedMachine$Layout" 21 "PatchedMachine$Layout" "size" "I", .laysFinal "PatchedMachine$Layout" "PatchedMachine$Layout" "names" "[I", .laysFinal "PatchedMachine$Layout" "PatchedMachine$Layout" "types" "[I", .laysFinal "PatchedMachine$Layout" "PatchedMachine$Layout" "sources" "[I", .lays "PatchedMachine$Layout" "PatchedMachine$Layout" "size" "I"]
set_option maxRecDepth 100000 in
theorem u_L_clear : ∀ w ∈ t_L_clear, w ∈ am_tb := am_subI [148, 151, 153, 155, 157] (by decide +kernel) (by decide +kernel)
set_option maxRecDepth 100000 in
theorem s_L_clear (l : Launch) : am_Sd l am_cl y_L_clear (am_ws y_L_clear prog_5_method_2_code 1 none) 0 0 f_L_clear :=
  am_meth (by decide +kernel) (Or.inr (Or.inr (Or.inl ⟨rfl, rfl⟩))) rfl (by decide) am_htc g_L_clear (am_ctx (cb := cb_L_clear) t_L_clear [] "PatchedMachine" false [21] [] u_L_clear rfl (by decide +kernel) (fun h => by cases h)
    (fun _ h => absurd h List.not_mem_nil) (fun x t h => by cases h) (by decide +kernel))
def t_P_clearClass : List Jvm.Cond := [.fieldLink "PatchedMachine$Program" 11 "PatchedMachine$Program" "layouts" "[LPatchedMachine$Layout;", .laysFinal "PatchedMachine$Program" "PatchedMachine$Program" "layouts" "[LPatchedMachine$Layout;", .laysFinal "PatchedMachine$Program" "PatchedMachine$Program" "routines" "[LPatchedMachine$Routine;", .lays "PatchedMachine$Program" "PatchedMachine$Program" "touchedClasses" "I", .lays "PatchedMachine$Program" "PatchedMachine$Program" "touchedMethods" "I", .lays "PatchedMachine$Program" "PatchedMachine$Program" "restrictedMethods" "I", .methodLinkNest "PatchedMachine$Program" 35 y_L_clear "PatchedMachine", .code y_L_clear prog_5_method_2_code 1 none, .initialized "PatchedMachine$Layout", .instanceMethod y_L_clear, .selects "PatchedMachine$Layout" y_L_clear y_L_clear, .fieldLink "PatchedMachine$Program" 23 "PatchedMachine$Program" "touchedClasses" "I"]
set_option maxRecDepth 100000 in
theorem u_P_clearClass : ∀ w ∈ t_P_clearClass, w ∈ am_tb := am_subI [203, 216, 218, 220, 222, 224, 404, 407, 107, 406, 1, 212] (by decide +kernel) (by decide +kernel)
set_option maxRecDepth 100000 in
theorem s_P_clearClass (l : Launch) : am_Sd l am_cl y_P_clearClass (am_ws y_P_clearClass prog_8_method_2_code 2 none) 1 20 f_P_clearClass :=
  am_meth (by decide +kernel) (Or.inr (Or.inr (Or.inl ⟨rfl, rfl⟩))) rfl (by decide) am_htc g_P_clearClass (am_ctx (cb := cb_P_clearClass) t_P_clearClass [(35, .invokevirtual 35)] "PatchedMachine" false [23] [] u_P_clearClass rfl (by decide +kernel) (fun h => by cases h)
    (List.forall_mem_cons.mpr ⟨am_KVN (host := "PatchedMachine") (na := 0) u_P_clearClass (s_L_clear l) rfl (by decide +kernel) (by decide +kernel), (fun _ h => absurd h List.not_mem_nil)⟩) (fun x t h => by cases h) (by decide +kernel))
def t_X_layout : List Jvm.Cond := [.methodLink "PatchedMachine" 44 y_X_isClass, .code y_X_isClass prog_1_method_23_code 1 (some .boolean), .initialized "PatchedMachine", .static y_X_isClass, .fieldLink "PatchedMachine" 10 "PatchedMachine" "draft" "LPatchedMachine$Program;", .laysFinal "PatchedMachine" "PatchedMachine" "draft" "LPatchedMachine$Program;", .laysFinal "PatchedMachine" "PatchedMachine" "line" "LPatchedMachine$PatchLine;", .laysFinal "PatchedMachine" "PatchedMachine" "checker" "LPatchedMachine$Checker;", .laysFinal "PatchedMachine" "PatchedMachine" "runner" "LPatchedMachine$Runner;", .lays "PatchedMachine" "PatchedMachine" "applied" "I", .lays "PatchedMachine" "PatchedMachine" "moved" "I", .methodLinkNest "PatchedMachine" 48 y_P_clearClass "PatchedMachine", .code y_P_clearClass prog_8_method_2_code 2 none, .initialized "PatchedMachine$Program", .instanceMethod y_P_clearClass, .selects "PatchedMachine$Program" y_P_clearClass y_P_clearClass]
set_option maxRecDepth 100000 in
theorem u_X_layout : ∀ w ∈ t_X_layout, w ∈ am_tb := am_subI [397, 399, 105, 398, 374, 380, 382, 384, 386, 388, 390, 400, 403, 106, 402, 0] (by decide +kernel) (by decide +kernel)
set_option maxRecDepth 100000 in
theorem s_X_layout (l : Launch) : am_Sd l am_cl y_X_layout (am_ws y_X_layout prog_1_method_2_code 2 (some .boolean)) 2 41 f_X_layout :=
  am_meth (by decide +kernel) (Or.inr (Or.inl ⟨rfl, rfl⟩)) rfl (by decide) am_htc g_X_layout (am_ctx (cb := cb_X_layout) t_X_layout [(44, .invokestatic 44), (48, .invokevirtual 48)] "PatchedMachine" false [] [] u_X_layout rfl (by decide +kernel) (fun h => by cases h)
    (List.forall_mem_cons.mpr ⟨am_KS (na := 1) u_X_layout (s_X_isClass l) (by decide +kernel) (by decide +kernel), (List.forall_mem_cons.mpr ⟨am_KVN (host := "PatchedMachine") (na := 1) u_X_layout (s_P_clearClass l) rfl (by decide +kernel) (by decide +kernel), (fun _ h => absurd h List.not_mem_nil)⟩)⟩) (fun x t h => by cases h) (by decide +kernel))
def t_P_touchesClass : List Jvm.Cond := [.fieldLink "PatchedMachine$Program" 23 "PatchedMachine$Program" "touchedClasses" "I", .laysFinal "PatchedMachine$Program" "PatchedMachine$Program" "layouts" "[LPatchedMachine$Layout;", .laysFinal "PatchedMachine$Program" "PatchedMachine$Program" "routines" "[LPatchedMachine$Routine;", .lays "PatchedMachine$Program" "PatchedMachine$Program" "touchedClasses" "I", .lays "PatchedMachine$Program" "PatchedMachine$Program" "touchedMethods" "I", .lays "PatchedMachine$Program" "PatchedMachine$Program" "restrictedMethods" "I"]
set_option maxRecDepth 100000 in
theorem u_P_touchesClass : ∀ w ∈ t_P_touchesClass, w ∈ am_tb := am_subI [212, 216, 218, 220, 222, 224] (by decide +kernel) (by decide +kernel)
set_option maxRecDepth 100000 in
theorem s_P_touchesClass (l : Launch) : am_Sd l am_cl y_P_touchesClass (am_ws y_P_touchesClass prog_8_method_4_code 2 (some .boolean)) 0 0 f_P_touchesClass :=
  am_meth (by decide +kernel) (Or.inr (Or.inl ⟨rfl, rfl⟩)) rfl (by decide) am_htc g_P_touchesClass (am_ctx (cb := cb_P_touchesClass) t_P_touchesClass [] "PatchedMachine" false [] [] u_P_touchesClass rfl (by decide +kernel) (fun h => by cases h)
    (fun _ h => absurd h List.not_mem_nil) (fun x t h => by cases h) (by decide +kernel))
def t_X_isName : List Jvm.Cond := []
set_option maxRecDepth 100000 in
theorem u_X_isName : ∀ w ∈ t_X_isName, w ∈ am_tb := am_subI [] (by decide +kernel) (by decide +kernel)
set_option maxRecDepth 100000 in
theorem s_X_isName (l : Launch) : am_Sd l am_cl y_X_isName (am_ws y_X_isName prog_1_method_25_code 1 (some .boolean)) 0 0 f_X_isName :=
  am_meth (by decide +kernel) (Or.inr (Or.inl ⟨rfl, rfl⟩)) rfl (by decide) am_htc g_X_isName (am_ctx (cb := cb_X_isName) t_X_isName [] "PatchedMachine" false [] [] u_X_isName rfl (by decide +kernel) (fun h => by cases h)
    (fun _ h => absurd h List.not_mem_nil) (fun x t h => by cases h) (by decide +kernel))
def t_X_isType : List Jvm.Cond := [.methodLink "PatchedMachine" 44 y_X_isClass, .code y_X_isClass prog_1_method_23_code 1 (some .boolean), .initialized "PatchedMachine", .static y_X_isClass]
set_option maxRecDepth 100000 in
theorem u_X_isType : ∀ w ∈ t_X_isType, w ∈ am_tb := am_subI [397, 399, 105, 398] (by decide +kernel) (by decide +kernel)
set_option maxRecDepth 100000 in
theorem s_X_isType (l : Launch) : am_Sd l am_cl y_X_isType (am_ws y_X_isType prog_1_method_26_code 1 (some .boolean)) 1 20 f_X_isType :=
  am_meth (by decide +kernel) (Or.inr (Or.inl ⟨rfl, rfl⟩)) rfl (by decide) am_htc g_X_isType (am_ctx (cb := cb_X_isType) t_X_isType [(44, .invokestatic 44)] "PatchedMachine" false [] [] u_X_isType rfl (by decide +kernel) (fun h => by cases h)
    (List.forall_mem_cons.mpr ⟨am_KS (na := 1) u_X_isType (s_X_isClass l) (by decide +kernel) (by decide +kernel), (fun _ h => absurd h List.not_mem_nil)⟩) (fun x t h => by cases h) (by decide +kernel))
def t_L_isFull : List Jvm.Cond := [.fieldLink "PatchedMachine$Layout" 21 "PatchedMachine$Layout" "size" "I", .laysFinal "PatchedMachine$Layout" "PatchedMachine$Layout" "names" "[I", .laysFinal "PatchedMachine$Layout" "PatchedMachine$Layout" "types" "[I", .laysFinal "PatchedMachine$Layout" "PatchedMachine$Layout" "sources" "[I", .lays "PatchedMachine$Layout" "PatchedMachine$Layout" "size" "I"]
set_option maxRecDepth 100000 in
theorem u_L_isFull : ∀ w ∈ t_L_isFull, w ∈ am_tb := am_subI [148, 151, 153, 155, 157] (by decide +kernel) (by decide +kernel)
set_option maxRecDepth 100000 in
theorem s_L_isFull (l : Launch) : am_Sd l am_cl y_L_isFull (am_ws y_L_isFull prog_5_method_3_code 1 (some .boolean)) 0 0 f_L_isFull :=
  am_meth (by decide +kernel) (Or.inr (Or.inl ⟨rfl, rfl⟩)) rfl (by decide) am_htc g_L_isFull (am_ctx (cb := cb_L_isFull) t_L_isFull [] "PatchedMachine" false [] [] u_L_isFull rfl (by decide +kernel) (fun h => by cases h)
    (fun _ h => absurd h List.not_mem_nil) (fun x t h => by cases h) (by decide +kernel))
def t_L_find : List Jvm.Cond := [.fieldLink "PatchedMachine$Layout" 21 "PatchedMachine$Layout" "size" "I", .laysFinal "PatchedMachine$Layout" "PatchedMachine$Layout" "names" "[I", .laysFinal "PatchedMachine$Layout" "PatchedMachine$Layout" "types" "[I", .laysFinal "PatchedMachine$Layout" "PatchedMachine$Layout" "sources" "[I", .lays "PatchedMachine$Layout" "PatchedMachine$Layout" "size" "I", .fieldLink "PatchedMachine$Layout" 9 "PatchedMachine$Layout" "names" "[I"]
set_option maxRecDepth 100000 in
theorem u_L_find : ∀ w ∈ t_L_find, w ∈ am_tb := am_subI [148, 151, 153, 155, 157, 141] (by decide +kernel) (by decide +kernel)
set_option maxRecDepth 100000 in
theorem s_L_find (l : Launch) : am_Sd l am_cl y_L_find (am_ws y_L_find prog_5_method_5_code 3 (some .int)) 0 0 f_L_find :=
  am_meth (by decide +kernel) (Or.inl ⟨rfl, rfl⟩) rfl (by decide) am_htc g_L_find (am_ctx (cb := cb_L_find) t_L_find [] "PatchedMachine" false [] [] u_L_find rfl (by decide +kernel) (fun h => by cases h)
    (fun _ h => absurd h List.not_mem_nil) (fun x t h => by cases h) (by decide +kernel))
def t_Q_newest : List Jvm.Cond := [.fieldLink "PatchedMachine$PatchLine" 13 "PatchedMachine$PatchLine" "ring" "[LPatchedMachine$Program;", .laysFinal "PatchedMachine$PatchLine" "PatchedMachine$PatchLine" "ring" "[LPatchedMachine$Program;", .lays "PatchedMachine$PatchLine" "PatchedMachine$PatchLine" "first" "I", .lays "PatchedMachine$PatchLine" "PatchedMachine$PatchLine" "length" "I", .fieldLink "PatchedMachine$PatchLine" 17 "PatchedMachine$PatchLine" "first" "I", .fieldLink "PatchedMachine$PatchLine" 21 "PatchedMachine$PatchLine" "length" "I"]
set_option maxRecDepth 100000 in
theorem u_Q_newest : ∀ w ∈ t_Q_newest, w ∈ am_tb := am_subI [236, 240, 242, 244, 237, 238] (by decide +kernel) (by decide +kernel)
set_option maxRecDepth 100000 in
theorem s_Q_newest (l : Launch) : am_Sd l am_cl y_Q_newest (am_ws y_Q_newest prog_6_method_4_code 1 (some (.object "PatchedMachine$Program"))) 0 0 f_Q_newest :=
  am_meth (by decide +kernel) (Or.inr (Or.inr (Or.inr ⟨rfl, _, rfl⟩))) rfl (by decide) am_htc g_Q_newest (am_ctx (cb := cb_Q_newest) t_Q_newest [] "PatchedMachine" false [] [] u_Q_newest rfl (by decide +kernel) (fun h => by cases h)
    (fun _ h => absurd h List.not_mem_nil) (fun x t h => by cases h) (by decide +kernel))
def t_L_typeNamed : List Jvm.Cond := [.methodLink "PatchedMachine$Layout" 29 y_L_find, .code y_L_find prog_5_method_5_code 3 (some .int), .initialized "PatchedMachine$Layout", .instanceMethod y_L_find, .selects "PatchedMachine$Layout" y_L_find y_L_find, .fieldLink "PatchedMachine$Layout" 15 "PatchedMachine$Layout" "types" "[I", .laysFinal "PatchedMachine$Layout" "PatchedMachine$Layout" "names" "[I", .laysFinal "PatchedMachine$Layout" "PatchedMachine$Layout" "types" "[I", .laysFinal "PatchedMachine$Layout" "PatchedMachine$Layout" "sources" "[I", .lays "PatchedMachine$Layout" "PatchedMachine$Layout" "size" "I"]
set_option maxRecDepth 100000 in
theorem u_L_typeNamed : ∀ w ∈ t_L_typeNamed, w ∈ am_tb := am_subI [438, 429, 107, 428, 4, 143, 151, 153, 155, 157] (by decide +kernel) (by decide +kernel)
set_option maxRecDepth 100000 in
theorem s_L_typeNamed (l : Launch) : am_Sd l am_cl y_L_typeNamed (am_ws y_L_typeNamed prog_5_method_6_code 3 (some .int)) 1 22 f_L_typeNamed :=
  am_meth (by decide +kernel) (Or.inl ⟨rfl, rfl⟩) rfl (by decide) am_htc g_L_typeNamed (am_ctx (cb := cb_L_typeNamed) t_L_typeNamed [(29, .invokevirtual 29)] "PatchedMachine" false [] [] u_L_typeNamed rfl (by decide +kernel) (fun h => by cases h)
    (List.forall_mem_cons.mpr ⟨am_KV (na := 1) u_L_typeNamed (s_L_find l) rfl (by decide +kernel) (by decide +kernel), (fun _ h => absurd h List.not_mem_nil)⟩) (fun x t h => by cases h) (by decide +kernel))
def t_L_add : List Jvm.Cond := [.methodLink "PatchedMachine$Layout" 25 y_L_isFull, .code y_L_isFull prog_5_method_3_code 1 (some .boolean), .initialized "PatchedMachine$Layout", .instanceMethod y_L_isFull, .selects "PatchedMachine$Layout" y_L_isFull y_L_isFull, .fieldLink "PatchedMachine$Layout" 9 "PatchedMachine$Layout" "names" "[I", .laysFinal "PatchedMachine$Layout" "PatchedMachine$Layout" "names" "[I", .laysFinal "PatchedMachine$Layout" "PatchedMachine$Layout" "types" "[I", .laysFinal "PatchedMachine$Layout" "PatchedMachine$Layout" "sources" "[I", .lays "PatchedMachine$Layout" "PatchedMachine$Layout" "size" "I", .fieldLink "PatchedMachine$Layout" 21 "PatchedMachine$Layout" "size" "I", .fieldLink "PatchedMachine$Layout" 15 "PatchedMachine$Layout" "types" "[I", .fieldLink "PatchedMachine$Layout" 18 "PatchedMachine$Layout" "sources" "[I"]
set_option maxRecDepth 100000 in
theorem u_L_add : ∀ w ∈ t_L_add, w ∈ am_tb := am_subI [443, 425, 107, 424, 3, 141, 151, 153, 155, 157, 148, 143, 146] (by decide +kernel) (by decide +kernel)
set_option maxRecDepth 100000 in
theorem s_L_add (l : Launch) : am_Sd l am_cl y_L_add (am_ws y_L_add prog_5_method_4_code 4 none) 1 20 f_L_add :=
  am_meth (by decide +kernel) (Or.inr (Or.inr (Or.inl ⟨rfl, rfl⟩))) rfl (by decide) am_htc g_L_add (am_ctx (cb := cb_L_add) t_L_add [(25, .invokevirtual 25)] "PatchedMachine" false [21] [] u_L_add rfl (by decide +kernel) (fun h => by cases h)
    (List.forall_mem_cons.mpr ⟨am_KV (na := 0) u_L_add (s_L_isFull l) rfl (by decide +kernel) (by decide +kernel), (fun _ h => absurd h List.not_mem_nil)⟩) (fun x t h => by cases h) (by decide +kernel))
def t_X_field : List Jvm.Cond := [.methodLink "PatchedMachine" 44 y_X_isClass, .code y_X_isClass prog_1_method_23_code 1 (some .boolean), .initialized "PatchedMachine", .static y_X_isClass, .fieldLink "PatchedMachine" 10 "PatchedMachine" "draft" "LPatchedMachine$Program;", .laysFinal "PatchedMachine" "PatchedMachine" "draft" "LPatchedMachine$Program;", .laysFinal "PatchedMachine" "PatchedMachine" "line" "LPatchedMachine$PatchLine;", .laysFinal "PatchedMachine" "PatchedMachine" "checker" "LPatchedMachine$Checker;", .laysFinal "PatchedMachine" "PatchedMachine" "runner" "LPatchedMachine$Runner;", .lays "PatchedMachine" "PatchedMachine" "applied" "I", .lays "PatchedMachine" "PatchedMachine" "moved" "I", .methodLinkNest "PatchedMachine" 52 y_P_touchesClass "PatchedMachine", .code y_P_touchesClass prog_8_method_4_code 2 (some .boolean), .initialized "PatchedMachine$Program", .instanceMethod y_P_touchesClass, .selects "PatchedMachine$Program" y_P_touchesClass y_P_touchesClass, .methodLink "PatchedMachine" 55 y_X_isName, .code y_X_isName prog_1_method_25_code 1 (some .boolean), .static y_X_isName, .methodLink "PatchedMachine" 58 y_X_isType, .code y_X_isType prog_1_method_26_code 1 (some .boolean), .static y_X_isType, .fieldLinkNest "PatchedMachine" 61 "PatchedMachine$Program" "layouts" "[LPatchedMachine$Layout;" "PatchedMachine", .laysFinal "PatchedMachine$Program" "PatchedMachine$Program" "layouts" "[LPatchedMachine$Layout;", .laysFinal "PatchedMachine$Program" "PatchedMachine$Program" "routines" "[LPatchedMachine$Routine;", .lays "PatchedMachine$Program" "PatchedMachine$Program" "touchedClasses" "I", .lays "PatchedMachine$Program" "PatchedMachine$Program" "touchedMethods" "I", .lays "PatchedMachine$Program" "PatchedMachine$Program" "restrictedMethods" "I", .methodLinkNest "PatchedMachine" 65 y_L_isFull "PatchedMachine", .code y_L_isFull prog_5_method_3_code 1 (some .boolean), .initialized "PatchedMachine$Layout", .instanceMethod y_L_isFull, .selects "PatchedMachine$Layout" y_L_isFull y_L_isFull, .methodLinkNest "PatchedMachine" 71 y_L_find "PatchedMachine", .code y_L_find prog_5_method_5_code 3 (some .int), .instanceMethod y_L_find, .selects "PatchedMachine$Layout" y_L_find y_L_find, .fieldLink "PatchedMachine" 19 "PatchedMachine" "line" "LPatchedMachine$PatchLine;", .methodLinkNest "PatchedMachine" 75 y_Q_newest "PatchedMachine", .code y_Q_newest prog_6_method_4_code 1 (some (.object "PatchedMachine$Program")), .initialized "PatchedMachine$PatchLine", .instanceMethod y_Q_newest, .selects "PatchedMachine$PatchLine" y_Q_newest y_Q_newest, .methodLinkNest "PatchedMachine" 79 y_L_typeNamed "PatchedMachine", .code y_L_typeNamed prog_5_method_6_code 3 (some .int), .instanceMethod y_L_typeNamed, .selects "PatchedMachine$Layout" y_L_typeNamed y_L_typeNamed, .methodLinkNest "PatchedMachine" 82 y_L_add "PatchedMachine", .code y_L_add prog_5_method_4_code 4 none, .instanceMethod y_L_add, .selects "PatchedMachine$Layout" y_L_add y_L_add]
set_option maxRecDepth 100000 in
theorem u_X_field : ∀ w ∈ t_X_field, w ∈ am_tb := am_subI [397, 399, 105, 398, 374, 380, 382, 384, 386, 388, 390, 412, 415, 106, 414, 2, 416, 418, 417, 419, 421, 420, 204, 216, 218, 220, 222, 224, 422, 425, 107, 424, 3, 426, 429, 428, 4, 375, 430, 433, 109, 432, 5, 434, 437, 436, 6, 439, 442, 441, 7] (by decide +kernel) (by decide +kernel)
set_option maxRecDepth 100000 in
theorem s_X_field (l : Launch) : am_Sd l am_cl y_X_field (am_ws y_X_field prog_1_method_3_code 6 (some .boolean)) 2 44 f_X_field :=
  am_meth (by decide +kernel) (Or.inr (Or.inl ⟨rfl, rfl⟩)) rfl (by decide) am_htc g_X_field (am_ctx (cb := cb_X_field) t_X_field [(44, .invokestatic 44), (52, .invokevirtual 52), (55, .invokestatic 55), (58, .invokestatic 58), (65, .invokevirtual 65), (71, .invokevirtual 71), (75, .invokevirtual 75), (79, .invokevirtual 79), (82, .invokevirtual 82)] "PatchedMachine" false [] [] u_X_field rfl (by decide +kernel) (fun h => by cases h)
    (List.forall_mem_cons.mpr ⟨am_KS (na := 1) u_X_field (s_X_isClass l) (by decide +kernel) (by decide +kernel), (List.forall_mem_cons.mpr ⟨am_KVN (host := "PatchedMachine") (na := 1) u_X_field (s_P_touchesClass l) rfl (by decide +kernel) (by decide +kernel), (List.forall_mem_cons.mpr ⟨am_KS (na := 1) u_X_field (s_X_isName l) (by decide +kernel) (by decide +kernel), (List.forall_mem_cons.mpr ⟨am_KS (na := 1) u_X_field (s_X_isType l) (by decide +kernel) (by decide +kernel), (List.forall_mem_cons.mpr ⟨am_KVN (host := "PatchedMachine") (na := 0) u_X_field (s_L_isFull l) rfl (by decide +kernel) (by decide +kernel), (List.forall_mem_cons.mpr ⟨am_KVN (host := "PatchedMachine") (na := 1) u_X_field (s_L_find l) rfl (by decide +kernel) (by decide +kernel), (List.forall_mem_cons.mpr ⟨am_KVN (host := "PatchedMachine") (na := 0) u_X_field (s_Q_newest l) rfl (by decide +kernel) (by decide +kernel), (List.forall_mem_cons.mpr ⟨am_KVN (host := "PatchedMachine") (na := 1) u_X_field (s_L_typeNamed l) rfl (by decide +kernel) (by decide +kernel), (List.forall_mem_cons.mpr ⟨am_KVN (host := "PatchedMachine") (na := 3) u_X_field (s_L_add l) rfl (by decide +kernel) (by decide +kernel), (fun _ h => absurd h List.not_mem_nil)⟩)⟩)⟩)⟩)⟩)⟩)⟩)⟩)⟩) (fun x t h => by cases h) (by decide +kernel))
def t_X_isMethod : List Jvm.Cond := []
set_option maxRecDepth 100000 in
theorem u_X_isMethod : ∀ w ∈ t_X_isMethod, w ∈ am_tb := am_subI [] (by decide +kernel) (by decide +kernel)
set_option maxRecDepth 100000 in
theorem s_X_isMethod (l : Launch) : am_Sd l am_cl y_X_isMethod (am_ws y_X_isMethod prog_1_method_24_code 1 (some .boolean)) 0 0 f_X_isMethod :=
  am_meth (by decide +kernel) (Or.inr (Or.inl ⟨rfl, rfl⟩)) rfl (by decide) am_htc g_X_isMethod (am_ctx (cb := cb_X_isMethod) t_X_isMethod [] "PatchedMachine" false [] [] u_X_isMethod rfl (by decide +kernel) (fun h => by cases h)
    (fun _ h => absurd h List.not_mem_nil) (fun x t h => by cases h) (by decide +kernel))
end
section
/-! printed by gen.py: contracts -/
def t_R_begin : List Jvm.Cond := [.fieldLink "PatchedMachine$Routine" 24 "PatchedMachine$Routine" "parameters" "I", .laysFinal "PatchedMachine$Routine" "PatchedMachine$Routine" "locals" "[I", .laysFinal "PatchedMachine$Routine" "PatchedMachine$Routine" "ops" "[I", .laysFinal "PatchedMachine$Routine" "PatchedMachine$Routine" "xs" "[I", .laysFinal "PatchedMachine$Routine" "PatchedMachine$Routine" "ys" "[I", .lays "PatchedMachine$Routine" "PatchedMachine$Routine" "parameters" "I", .lays "PatchedMachine$Routine" "PatchedMachine$Routine" "result" "I", .lays "PatchedMachine$Routine" "PatchedMachine$Routine" "length" "I", .fieldLink "PatchedMachine$Routine" 28 "PatchedMachine$Routine" "result" "I", .fieldLink "PatchedMachine$Routine" 31 "PatchedMachine$Routine" "length" "I", .fieldLink "PatchedMachine$Routine" 9 "PatchedMachine$Routine" "locals" "[I"]
set_option maxRecDepth 100000 in
theorem u_R_begin : ∀ w ∈ t_R_begin, w ∈ am_tb := am_subI [178, 188, 190, 192, 194, 196, 198, 200, 182, 186, 166] (by decide +kernel) (by decide +kernel)
set_option maxRecDepth 100000 in
theorem s_R_begin (l : Launch) : am_Sd l am_cl y_R_begin (am_ws y_R_begin prog_9_method_2_code 5 none) 0 0 f_R_begin :=
  am_meth (by decide +kernel) (Or.inr (Or.inr (Or.inl ⟨rfl, rfl⟩))) rfl (by decide) am_htc g_R_begin (am_ctx (cb := cb_R_begin) t_R_begin [] "PatchedMachine" false [24, 28, 31] [] u_R_begin rfl (by decide +kernel) (fun h => by cases h)
    (fun _ h => absurd h List.not_mem_nil) (fun x t h => by cases h) (by decide +kernel))
def t_P_beginMethod : List Jvm.Cond := [.fieldLink "PatchedMachine$Program" 19 "PatchedMachine$Program" "routines" "[LPatchedMachine$Routine;", .laysFinal "PatchedMachine$Program" "PatchedMachine$Program" "layouts" "[LPatchedMachine$Layout;", .laysFinal "PatchedMachine$Program" "PatchedMachine$Program" "routines" "[LPatchedMachine$Routine;", .lays "PatchedMachine$Program" "PatchedMachine$Program" "touchedClasses" "I", .lays "PatchedMachine$Program" "PatchedMachine$Program" "touchedMethods" "I", .lays "PatchedMachine$Program" "PatchedMachine$Program" "restrictedMethods" "I", .methodLinkNest "PatchedMachine$Program" 38 y_R_begin "PatchedMachine", .code y_R_begin prog_9_method_2_code 5 none, .initialized "PatchedMachine$Routine", .instanceMethod y_R_begin, .selects "PatchedMachine$Routine" y_R_begin y_R_begin, .fieldLink "PatchedMachine$Program" 27 "PatchedMachine$Program" "touchedMethods" "I"]
set_option maxRecDepth 100000 in
theorem u_P_beginMethod : ∀ w ∈ t_P_beginMethod, w ∈ am_tb := am_subI [208, 216, 218, 220, 222, 224, 455, 458, 108, 457, 9, 213] (by decide +kernel) (by decide +kernel)
set_option maxRecDepth 100000 in
theorem s_P_beginMethod (l : Launch) : am_Sd l am_cl y_P_beginMethod (am_ws y_P_beginMethod prog_8_method_3_code 5 none) 1 24 f_P_beginMethod :=
  am_meth (by decide +kernel) (Or.inr (Or.inr (Or.inl ⟨rfl, rfl⟩))) rfl (by decide) am_htc g_P_beginMethod (am_ctx (cb := cb_P_beginMethod) t_P_beginMethod [(38, .invokevirtual 38)] "PatchedMachine" false [27] [] u_P_beginMethod rfl (by decide +kernel) (fun h => by cases h)
    (List.forall_mem_cons.mpr ⟨am_KVN (host := "PatchedMachine") (na := 3) u_P_beginMethod (s_R_begin l) rfl (by decide +kernel) (by decide +kernel), (fun _ h => absurd h List.not_mem_nil)⟩) (fun x t h => by cases h) (by decide +kernel))
def t_X_head : List Jvm.Cond := [.methodLink "PatchedMachine" 86 y_X_isMethod, .code y_X_isMethod prog_1_method_24_code 1 (some .boolean), .initialized "PatchedMachine", .static y_X_isMethod, .methodLink "PatchedMachine" 58 y_X_isType, .code y_X_isType prog_1_method_26_code 1 (some .boolean), .static y_X_isType, .fieldLink "PatchedMachine" 10 "PatchedMachine" "draft" "LPatchedMachine$Program;", .laysFinal "PatchedMachine" "PatchedMachine" "draft" "LPatchedMachine$Program;", .laysFinal "PatchedMachine" "PatchedMachine" "line" "LPatchedMachine$PatchLine;", .laysFinal "PatchedMachine" "PatchedMachine" "checker" "LPatchedMachine$Checker;", .laysFinal "PatchedMachine" "PatchedMachine" "runner" "LPatchedMachine$Runner;", .lays "PatchedMachine" "PatchedMachine" "applied" "I", .lays "PatchedMachine" "PatchedMachine" "moved" "I", .methodLinkNest "PatchedMachine" 89 y_P_beginMethod "PatchedMachine", .code y_P_beginMethod prog_8_method_3_code 5 none, .initialized "PatchedMachine$Program", .instanceMethod y_P_beginMethod, .selects "PatchedMachine$Program" y_P_beginMethod y_P_beginMethod]
set_option maxRecDepth 100000 in
theorem u_X_head : ∀ w ∈ t_X_head, w ∈ am_tb := am_subI [448, 450, 105, 449, 419, 421, 420, 374, 380, 382, 384, 386, 388, 390, 451, 454, 106, 453, 8] (by decide +kernel) (by decide +kernel)
set_option maxRecDepth 100000 in
theorem s_X_head (l : Launch) : am_Sd l am_cl y_X_head (am_ws y_X_head prog_1_method_4_code 5 (some .boolean)) 2 48 f_X_head :=
  am_meth (by decide +kernel) (Or.inr (Or.inl ⟨rfl, rfl⟩)) rfl (by decide) am_htc g_X_head (am_ctx (cb := cb_X_head) t_X_head [(86, .invokestatic 86), (58, .invokestatic 58), (89, .invokevirtual 89)] "PatchedMachine" false [] [] u_X_head rfl (by decide +kernel) (fun h => by cases h)
    (List.forall_mem_cons.mpr ⟨am_KS (na := 1) u_X_head (s_X_isMethod l) (by decide +kernel) (by decide +kernel), (List.forall_mem_cons.mpr ⟨am_KS (na := 1) u_X_head (s_X_isType l) (by decide +kernel) (by decide +kernel), (List.forall_mem_cons.mpr ⟨am_KVN (host := "PatchedMachine") (na := 4) u_X_head (s_P_beginMethod l) rfl (by decide +kernel) (by decide +kernel), (fun _ h => absurd h List.not_mem_nil)⟩)⟩)⟩) (fun x t h => by cases h) (by decide +kernel))
def t_P_touchesMethod : List Jvm.Cond := [.fieldLink "PatchedMachine$Program" 27 "PatchedMachine$Program" "touchedMethods" "I", .laysFinal "PatchedMachine$Program" "PatchedMachine$Program" "layouts" "[LPatchedMachine$Layout;", .laysFinal "PatchedMachine$Program" "PatchedMachine$Program" "routines" "[LPatchedMachine$Routine;", .lays "PatchedMachine$Program" "PatchedMachine$Program" "touchedClasses" "I", .lays "PatchedMachine$Program" "PatchedMachine$Program" "touchedMethods" "I", .lays "PatchedMachine$Program" "PatchedMachine$Program" "restrictedMethods" "I"]
set_option maxRecDepth 100000 in
theorem u_P_touchesMethod : ∀ w ∈ t_P_touchesMethod, w ∈ am_tb := am_subI [213, 216, 218, 220, 222, 224] (by decide +kernel) (by decide +kernel)
set_option maxRecDepth 100000 in
theorem s_P_touchesMethod (l : Launch) : am_Sd l am_cl y_P_touchesMethod (am_ws y_P_touchesMethod prog_8_method_5_code 2 (some .boolean)) 0 0 f_P_touchesMethod :=
  am_meth (by decide +kernel) (Or.inr (Or.inl ⟨rfl, rfl⟩)) rfl (by decide) am_htc g_P_touchesMethod (am_ctx (cb := cb_P_touchesMethod) t_P_touchesMethod [] "PatchedMachine" false [] [] u_P_touchesMethod rfl (by decide +kernel) (fun h => by cases h)
    (fun _ h => absurd h List.not_mem_nil) (fun x t h => by cases h) (by decide +kernel))
def t_R_isFull : List Jvm.Cond := [.fieldLink "PatchedMachine$Routine" 31 "PatchedMachine$Routine" "length" "I", .laysFinal "PatchedMachine$Routine" "PatchedMachine$Routine" "locals" "[I", .laysFinal "PatchedMachine$Routine" "PatchedMachine$Routine" "ops" "[I", .laysFinal "PatchedMachine$Routine" "PatchedMachine$Routine" "xs" "[I", .laysFinal "PatchedMachine$Routine" "PatchedMachine$Routine" "ys" "[I", .lays "PatchedMachine$Routine" "PatchedMachine$Routine" "parameters" "I", .lays "PatchedMachine$Routine" "PatchedMachine$Routine" "result" "I", .lays "PatchedMachine$Routine" "PatchedMachine$Routine" "length" "I"]
set_option maxRecDepth 100000 in
theorem u_R_isFull : ∀ w ∈ t_R_isFull, w ∈ am_tb := am_subI [186, 188, 190, 192, 194, 196, 198, 200] (by decide +kernel) (by decide +kernel)
set_option maxRecDepth 100000 in
theorem s_R_isFull (l : Launch) : am_Sd l am_cl y_R_isFull (am_ws y_R_isFull prog_9_method_4_code 1 (some .boolean)) 0 0 f_R_isFull :=
  am_meth (by decide +kernel) (Or.inr (Or.inl ⟨rfl, rfl⟩)) rfl (by decide) am_htc g_R_isFull (am_ctx (cb := cb_R_isFull) t_R_isFull [] "PatchedMachine" false [] [] u_R_isFull rfl (by decide +kernel) (fun h => by cases h)
    (fun _ h => absurd h List.not_mem_nil) (fun x t h => by cases h) (by decide +kernel))
def t_X_fitsX : List Jvm.Cond := [.methodLink "PatchedMachine" 44 y_X_isClass, .code y_X_isClass prog_1_method_23_code 1 (some .boolean), .initialized "PatchedMachine", .static y_X_isClass, .methodLink "PatchedMachine" 86 y_X_isMethod, .code y_X_isMethod prog_1_method_24_code 1 (some .boolean), .static y_X_isMethod]
set_option maxRecDepth 100000 in
theorem u_X_fitsX : ∀ w ∈ t_X_fitsX, w ∈ am_tb := am_subI [397, 399, 105, 398, 448, 450, 449] (by decide +kernel) (by decide +kernel)
set_option maxRecDepth 100000 in
theorem s_X_fitsX (l : Launch) : am_Sd l am_cl y_X_fitsX (am_ws y_X_fitsX prog_1_method_27_code 2 (some .boolean)) 1 20 f_X_fitsX :=
  am_meth (by decide +kernel) (Or.inr (Or.inl ⟨rfl, rfl⟩)) rfl (by decide) am_htc g_X_fitsX (am_ctx (cb := cb_X_fitsX) t_X_fitsX [(44, .invokestatic 44), (86, .invokestatic 86)] "PatchedMachine" false [] [] u_X_fitsX rfl (by decide +kernel) (fun h => by cases h)
    (List.forall_mem_cons.mpr ⟨am_KS (na := 1) u_X_fitsX (s_X_isClass l) (by decide +kernel) (by decide +kernel), (List.forall_mem_cons.mpr ⟨am_KS (na := 1) u_X_fitsX (s_X_isMethod l) (by decide +kernel) (by decide +kernel), (fun _ h => absurd h List.not_mem_nil)⟩)⟩) (fun x t h => by cases h) (by decide +kernel))
def t_X_fitsY : List Jvm.Cond := [.methodLink "PatchedMachine" 55 y_X_isName, .code y_X_isName prog_1_method_25_code 1 (some .boolean), .initialized "PatchedMachine", .static y_X_isName]
set_option maxRecDepth 100000 in
theorem u_X_fitsY : ∀ w ∈ t_X_fitsY, w ∈ am_tb := am_subI [416, 418, 105, 417] (by decide +kernel) (by decide +kernel)
set_option maxRecDepth 100000 in
theorem s_X_fitsY (l : Launch) : am_Sd l am_cl y_X_fitsY (am_ws y_X_fitsY prog_1_method_28_code 2 (some .boolean)) 1 20 f_X_fitsY :=
  am_meth (by decide +kernel) (Or.inr (Or.inl ⟨rfl, rfl⟩)) rfl (by decide) am_htc g_X_fitsY (am_ctx (cb := cb_X_fitsY) t_X_fitsY [(55, .invokestatic 55)] "PatchedMachine" false [] [] u_X_fitsY rfl (by decide +kernel) (fun h => by cases h)
    (List.forall_mem_cons.mpr ⟨am_KS (na := 1) u_X_fitsY (s_X_isName l) (by decide +kernel) (by decide +kernel), (fun _ h => absurd h List.not_mem_nil)⟩) (fun x t h => by cases h) (by decide +kernel))
def t_R_add : List Jvm.Cond := [.methodLink "PatchedMachine$Routine" 34 y_R_isFull, .code y_R_isFull prog_9_method_4_code 1 (some .boolean), .initialized "PatchedMachine$Routine", .instanceMethod y_R_isFull, .selects "PatchedMachine$Routine" y_R_isFull y_R_isFull, .fieldLink "PatchedMachine$Routine" 15 "PatchedMachine$Routine" "ops" "[I", .laysFinal "PatchedMachine$Routine" "PatchedMachine$Routine" "locals" "[I", .laysFinal "PatchedMachine$Routine" "PatchedMachine$Routine" "ops" "[I", .laysFinal "PatchedMachine$Routine" "PatchedMachine$Routine" "xs" "[I", .laysFinal "PatchedMachine$Routine" "PatchedMachine$Routine" "ys" "[I", .lays "PatchedMachine$Routine" "PatchedMachine$Routine" "parameters" "I", .lays "PatchedMachine$Routine" "PatchedMachine$Routine" "result" "I", .lays "PatchedMachine$Routine" "PatchedMachine$Routine" "length" "I", .fieldLink "PatchedMachine$Routine" 31 "PatchedMachine$Routine" "length" "I", .fieldLink "PatchedMachine$Routine" 18 "PatchedMachine$Routine" "xs" "[I", .fieldLink "PatchedMachine$Routine" 21 "PatchedMachine$Routine" "ys" "[I"]
set_option maxRecDepth 100000 in
theorem u_R_add : ∀ w ∈ t_R_add, w ∈ am_tb := am_subI [481, 470, 108, 469, 11, 169, 188, 190, 192, 194, 196, 198, 200, 186, 172, 175] (by decide +kernel) (by decide +kernel)
set_option maxRecDepth 100000 in
theorem s_R_add (l : Launch) : am_Sd l am_cl y_R_add (am_ws y_R_add prog_9_method_5_code 4 none) 1 20 f_R_add :=
  am_meth (by decide +kernel) (Or.inr (Or.inr (Or.inl ⟨rfl, rfl⟩))) rfl (by decide) am_htc g_R_add (am_ctx (cb := cb_R_add) t_R_add [(34, .invokevirtual 34)] "PatchedMachine" false [31] [] u_R_add rfl (by decide +kernel) (fun h => by cases h)
    (List.forall_mem_cons.mpr ⟨am_KV (na := 0) u_R_add (s_R_isFull l) rfl (by decide +kernel) (by decide +kernel), (fun _ h => absurd h List.not_mem_nil)⟩) (fun x t h => by cases h) (by decide +kernel))
def t_X_code : List Jvm.Cond := [.methodLink "PatchedMachine" 86 y_X_isMethod, .code y_X_isMethod prog_1_method_24_code 1 (some .boolean), .initialized "PatchedMachine", .static y_X_isMethod, .fieldLink "PatchedMachine" 10 "PatchedMachine" "draft" "LPatchedMachine$Program;", .laysFinal "PatchedMachine" "PatchedMachine" "draft" "LPatchedMachine$Program;", .laysFinal "PatchedMachine" "PatchedMachine" "line" "LPatchedMachine$PatchLine;", .laysFinal "PatchedMachine" "PatchedMachine" "checker" "LPatchedMachine$Checker;", .laysFinal "PatchedMachine" "PatchedMachine" "runner" "LPatchedMachine$Runner;", .lays "PatchedMachine" "PatchedMachine" "applied" "I", .lays "PatchedMachine" "PatchedMachine" "moved" "I", .methodLinkNest "PatchedMachine" 93 y_P_touchesMethod "PatchedMachine", .code y_P_touchesMethod prog_8_method_5_code 2 (some .boolean), .initialized "PatchedMachine$Program", .instanceMethod y_P_touchesMethod, .selects "PatchedMachine$Program" y_P_touchesMethod y_P_touchesMethod, .fieldLinkNest "PatchedMachine" 96 "PatchedMachine$Program" "routines" "[LPatchedMachine$Routine;" "PatchedMachine", .laysFinal "PatchedMachine$Program" "PatchedMachine$Program" "layouts" "[LPatchedMachine$Layout;", .laysFinal "PatchedMachine$Program" "PatchedMachine$Program" "routines" "[LPatchedMachine$Routine;", .lays "PatchedMachine$Program" "PatchedMachine$Program" "touchedClasses" "I", .lays "PatchedMachine$Program" "PatchedMachine$Program" "touchedMethods" "I", .lays "PatchedMachine$Program" "PatchedMachine$Program" "restrictedMethods" "I", .methodLinkNest "PatchedMachine" 100 y_R_isFull "PatchedMachine", .code y_R_isFull prog_9_method_4_code 1 (some .boolean), .initialized "PatchedMachine$Routine", .instanceMethod y_R_isFull, .selects "PatchedMachine$Routine" y_R_isFull y_R_isFull, .methodLink "PatchedMachine" 103 y_X_fitsX, .code y_X_fitsX prog_1_method_27_code 2 (some .boolean), .static y_X_fitsX, .methodLink "PatchedMachine" 107 y_X_fitsY, .code y_X_fitsY prog_1_method_28_code 2 (some .boolean), .static y_X_fitsY, .methodLinkNest "PatchedMachine" 110 y_R_add "PatchedMachine", .code y_R_add prog_9_method_5_code 4 none, .instanceMethod y_R_add, .selects "PatchedMachine$Routine" y_R_add y_R_add]
set_option maxRecDepth 100000 in
theorem u_X_code : ∀ w ∈ t_X_code, w ∈ am_tb := am_subI [448, 450, 105, 449, 374, 380, 382, 384, 386, 388, 390, 463, 466, 106, 465, 10, 210, 216, 218, 220, 222, 224, 467, 470, 108, 469, 11, 471, 473, 472, 474, 476, 475, 477, 480, 479, 12] (by decide +kernel) (by decide +kernel)
set_option maxRecDepth 100000 in
theorem s_X_code (l : Launch) : am_Sd l am_cl y_X_code (am_ws y_X_code prog_1_method_5_code 5 (some .boolean)) 2 43 f_X_code :=
  am_meth (by decide +kernel) (Or.inr (Or.inl ⟨rfl, rfl⟩)) rfl (by decide) am_htc g_X_code (am_ctx (cb := cb_X_code) t_X_code [(86, .invokestatic 86), (93, .invokevirtual 93), (100, .invokevirtual 100), (103, .invokestatic 103), (107, .invokestatic 107), (110, .invokevirtual 110)] "PatchedMachine" false [] [] u_X_code rfl (by decide +kernel) (fun h => by cases h)
    (List.forall_mem_cons.mpr ⟨am_KS (na := 1) u_X_code (s_X_isMethod l) (by decide +kernel) (by decide +kernel), (List.forall_mem_cons.mpr ⟨am_KVN (host := "PatchedMachine") (na := 1) u_X_code (s_P_touchesMethod l) rfl (by decide +kernel) (by decide +kernel), (List.forall_mem_cons.mpr ⟨am_KVN (host := "PatchedMachine") (na := 0) u_X_code (s_R_isFull l) rfl (by decide +kernel) (by decide +kernel), (List.forall_mem_cons.mpr ⟨am_KS (na := 2) u_X_code (s_X_fitsX l) (by decide +kernel) (by decide +kernel), (List.forall_mem_cons.mpr ⟨am_KS (na := 2) u_X_code (s_X_fitsY l) (by decide +kernel) (by decide +kernel), (List.forall_mem_cons.mpr ⟨am_KVN (host := "PatchedMachine") (na := 3) u_X_code (s_R_add l) rfl (by decide +kernel) (by decide +kernel), (fun _ h => absurd h List.not_mem_nil)⟩)⟩)⟩)⟩)⟩)⟩) (fun x t h => by cases h) (by decide +kernel))
def t_P_touchesAnything : List Jvm.Cond := [.fieldLink "PatchedMachine$Program" 23 "PatchedMachine$Program" "touchedClasses" "I", .laysFinal "PatchedMachine$Program" "PatchedMachine$Program" "layouts" "[LPatchedMachine$Layout;", .laysFinal "PatchedMachine$Program" "PatchedMachine$Program" "routines" "[LPatchedMachine$Routine;", .lays "PatchedMachine$Program" "PatchedMachine$Program" "touchedClasses" "I", .lays "PatchedMachine$Program" "PatchedMachine$Program" "touchedMethods" "I", .lays "PatchedMachine$Program" "PatchedMachine$Program" "restrictedMethods" "I", .fieldLink "PatchedMachine$Program" 27 "PatchedMachine$Program" "touchedMethods" "I"]
set_option maxRecDepth 100000 in
theorem u_P_touchesAnything : ∀ w ∈ t_P_touchesAnything, w ∈ am_tb := am_subI [212, 216, 218, 220, 222, 224, 213] (by decide +kernel) (by decide +kernel)
set_option maxRecDepth 100000 in
theorem s_P_touchesAnything (l : Launch) : am_Sd l am_cl y_P_touchesAnything (am_ws y_P_touchesAnything prog_8_method_6_code 1 (some .boolean)) 0 0 f_P_touchesAnything :=
  am_meth (by decide +kernel) (Or.inr (Or.inl ⟨rfl, rfl⟩)) rfl (by decide) am_htc g_P_touchesAnything (am_ctx (cb := cb_P_touchesAnything) t_P_touchesAnything [] "PatchedMachine" false [] [] u_P_touchesAnything rfl (by decide +kernel) (fun h => by cases h)
    (fun _ h => absurd h List.not_mem_nil) (fun x t h => by cases h) (by decide +kernel))
def t_L_copy : List Jvm.Cond := [.fieldLink "PatchedMachine$Layout" 21 "PatchedMachine$Layout" "size" "I", .laysFinal "PatchedMachine$Layout" "PatchedMachine$Layout" "names" "[I", .laysFinal "PatchedMachine$Layout" "PatchedMachine$Layout" "types" "[I", .laysFinal "PatchedMachine$Layout" "PatchedMachine$Layout" "sources" "[I", .lays "PatchedMachine$Layout" "PatchedMachine$Layout" "size" "I", .fieldLink "PatchedMachine$Layout" 9 "PatchedMachine$Layout" "names" "[I", .methodLink "PatchedMachine$Layout" 33 arraycopyName, .native arraycopyName, .static arraycopyName, .initialized "java/lang/System", .fieldLink "PatchedMachine$Layout" 15 "PatchedMachine$Layout" "types" "[I", .fieldLink "PatchedMachine$Layout" 18 "PatchedMachine$Layout" "sources" "[I"]
set_option maxRecDepth 100000 in
theorem u_L_copy : ∀ w ∈ t_L_copy, w ∈ am_tb := am_subI [148, 151, 153, 155, 157, 141, 502, 504, 503, 116, 143, 146] (by decide +kernel) (by decide +kernel)
set_option maxRecDepth 100000 in
theorem s_L_copy (l : Launch) : am_Sd l am_cl y_L_copy (am_ws y_L_copy prog_5_method_7_code 2 none) 1 26 f_L_copy :=
  am_meth (by decide +kernel) (Or.inr (Or.inr (Or.inl ⟨rfl, rfl⟩))) rfl (by decide) am_htc g_L_copy (am_ctx (cb := cb_L_copy) t_L_copy [(33, .invokestatic 33)] "PatchedMachine" false [21] [] u_L_copy rfl (by decide +kernel) (fun h => by cases h)
    (List.forall_mem_cons.mpr ⟨am_KC u_L_copy (by decide +kernel) (by decide +kernel), (fun _ h => absurd h List.not_mem_nil)⟩) (fun x t h => by cases h) (by decide +kernel))
def t_R_copy : List Jvm.Cond := [.fieldLink "PatchedMachine$Routine" 24 "PatchedMachine$Routine" "parameters" "I", .laysFinal "PatchedMachine$Routine" "PatchedMachine$Routine" "locals" "[I", .laysFinal "PatchedMachine$Routine" "PatchedMachine$Routine" "ops" "[I", .laysFinal "PatchedMachine$Routine" "PatchedMachine$Routine" "xs" "[I", .laysFinal "PatchedMachine$Routine" "PatchedMachine$Routine" "ys" "[I", .lays "PatchedMachine$Routine" "PatchedMachine$Routine" "parameters" "I", .lays "PatchedMachine$Routine" "PatchedMachine$Routine" "result" "I", .lays "PatchedMachine$Routine" "PatchedMachine$Routine" "length" "I", .fieldLink "PatchedMachine$Routine" 28 "PatchedMachine$Routine" "result" "I", .fieldLink "PatchedMachine$Routine" 31 "PatchedMachine$Routine" "length" "I", .fieldLink "PatchedMachine$Routine" 9 "PatchedMachine$Routine" "locals" "[I", .methodLink "PatchedMachine$Routine" 38 arraycopyName, .native arraycopyName, .static arraycopyName, .initialized "java/lang/System", .fieldLink "PatchedMachine$Routine" 15 "PatchedMachine$Routine" "ops" "[I", .fieldLink "PatchedMachine$Routine" 18 "PatchedMachine$Routine" "xs" "[I", .fieldLink "PatchedMachine$Routine" 21 "PatchedMachine$Routine" "ys" "[I"]
set_option maxRecDepth 100000 in
theorem u_R_copy : ∀ w ∈ t_R_copy, w ∈ am_tb := am_subI [178, 188, 190, 192, 194, 196, 198, 200, 182, 186, 166, 509, 504, 503, 116, 169, 172, 175] (by decide +kernel) (by decide +kernel)
set_option maxRecDepth 100000 in
theorem s_R_copy (l : Launch) : am_Sd l am_cl y_R_copy (am_ws y_R_copy prog_9_method_11_code 2 none) 1 26 f_R_copy :=
  am_meth (by decide +kernel) (Or.inr (Or.inr (Or.inl ⟨rfl, rfl⟩))) rfl (by decide) am_htc g_R_copy (am_ctx (cb := cb_R_copy) t_R_copy [(38, .invokestatic 38)] "PatchedMachine" false [24, 28, 31] [] u_R_copy rfl (by decide +kernel) (fun h => by cases h)
    (List.forall_mem_cons.mpr ⟨am_KC u_R_copy (by decide +kernel) (by decide +kernel), (fun _ h => absurd h List.not_mem_nil)⟩) (fun x t h => by cases h) (by decide +kernel))
def t_P_copy : List Jvm.Cond := [.fieldLink "PatchedMachine$Program" 11 "PatchedMachine$Program" "layouts" "[LPatchedMachine$Layout;", .laysFinal "PatchedMachine$Program" "PatchedMachine$Program" "layouts" "[LPatchedMachine$Layout;", .laysFinal "PatchedMachine$Program" "PatchedMachine$Program" "routines" "[LPatchedMachine$Routine;", .lays "PatchedMachine$Program" "PatchedMachine$Program" "touchedClasses" "I", .lays "PatchedMachine$Program" "PatchedMachine$Program" "touchedMethods" "I", .lays "PatchedMachine$Program" "PatchedMachine$Program" "restrictedMethods" "I", .methodLinkNest "PatchedMachine$Program" 42 y_L_copy "PatchedMachine", .code y_L_copy prog_5_method_7_code 2 none, .initialized "PatchedMachine$Layout", .instanceMethod y_L_copy, .selects "PatchedMachine$Layout" y_L_copy y_L_copy, .fieldLink "PatchedMachine$Program" 19 "PatchedMachine$Program" "routines" "[LPatchedMachine$Routine;", .methodLinkNest "PatchedMachine$Program" 46 y_R_copy "PatchedMachine", .code y_R_copy prog_9_method_11_code 2 none, .initialized "PatchedMachine$Routine", .instanceMethod y_R_copy, .selects "PatchedMachine$Routine" y_R_copy y_R_copy, .fieldLink "PatchedMachine$Program" 23 "PatchedMachine$Program" "touchedClasses" "I", .fieldLink "PatchedMachine$Program" 27 "PatchedMachine$Program" "touchedMethods" "I", .fieldLink "PatchedMachine$Program" 30 "PatchedMachine$Program" "restrictedMethods" "I"]
set_option maxRecDepth 100000 in
theorem u_P_copy : ∀ w ∈ t_P_copy, w ∈ am_tb := am_subI [203, 216, 218, 220, 222, 224, 498, 501, 107, 500, 16, 208, 505, 508, 108, 507, 17, 212, 213, 214] (by decide +kernel) (by decide +kernel)
set_option maxRecDepth 100000 in
theorem s_P_copy (l : Launch) : am_Sd l am_cl y_P_copy (am_ws y_P_copy prog_8_method_7_code 3 none) 2 47 f_P_copy :=
  am_meth (by decide +kernel) (Or.inr (Or.inr (Or.inl ⟨rfl, rfl⟩))) rfl (by decide) am_htc g_P_copy (am_ctx (cb := cb_P_copy) t_P_copy [(42, .invokevirtual 42), (46, .invokevirtual 46)] "PatchedMachine" false [23, 27, 30] [] u_P_copy rfl (by decide +kernel) (fun h => by cases h)
    (List.forall_mem_cons.mpr ⟨am_KVN (host := "PatchedMachine") (na := 1) u_P_copy (s_L_copy l) rfl (by decide +kernel) (by decide +kernel), (List.forall_mem_cons.mpr ⟨am_KVN (host := "PatchedMachine") (na := 1) u_P_copy (s_R_copy l) rfl (by decide +kernel) (by decide +kernel), (fun _ h => absurd h List.not_mem_nil)⟩)⟩) (fun x t h => by cases h) (by decide +kernel))
def t_P_beginAs : List Jvm.Cond := [.methodLink "PatchedMachine$Program" 49 y_P_copy, .code y_P_copy prog_8_method_7_code 3 none, .initialized "PatchedMachine$Program", .instanceMethod y_P_copy, .selects "PatchedMachine$Program" y_P_copy y_P_copy, .fieldLink "PatchedMachine$Program" 23 "PatchedMachine$Program" "touchedClasses" "I", .laysFinal "PatchedMachine$Program" "PatchedMachine$Program" "layouts" "[LPatchedMachine$Layout;", .laysFinal "PatchedMachine$Program" "PatchedMachine$Program" "routines" "[LPatchedMachine$Routine;", .lays "PatchedMachine$Program" "PatchedMachine$Program" "touchedClasses" "I", .lays "PatchedMachine$Program" "PatchedMachine$Program" "touchedMethods" "I", .lays "PatchedMachine$Program" "PatchedMachine$Program" "restrictedMethods" "I", .fieldLink "PatchedMachine$Program" 27 "PatchedMachine$Program" "touchedMethods" "I", .fieldLink "PatchedMachine$Program" 30 "PatchedMachine$Program" "restrictedMethods" "I"]
set_option maxRecDepth 100000 in
theorem u_P_beginAs : ∀ w ∈ t_P_beginAs, w ∈ am_tb := am_subI [494, 497, 106, 496, 15, 212, 216, 218, 220, 222, 224, 213, 214] (by decide +kernel) (by decide +kernel)
set_option maxRecDepth 100000 in
theorem s_P_beginAs (l : Launch) : am_Sd l am_cl y_P_beginAs (am_ws y_P_beginAs prog_8_method_8_code 2 none) 3 69 f_P_beginAs :=
  am_meth (by decide +kernel) (Or.inr (Or.inr (Or.inl ⟨rfl, rfl⟩))) rfl (by decide) am_htc g_P_beginAs (am_ctx (cb := cb_P_beginAs) t_P_beginAs [(49, .invokevirtual 49)] "PatchedMachine" false [23, 27, 30] [] u_P_beginAs rfl (by decide +kernel) (fun h => by cases h)
    (List.forall_mem_cons.mpr ⟨am_KV (na := 1) u_P_beginAs (s_P_copy l) rfl (by decide +kernel) (by decide +kernel), (fun _ h => absurd h List.not_mem_nil)⟩) (fun x t h => by cases h) (by decide +kernel))
def t_X_drop : List Jvm.Cond := [.fieldLink "PatchedMachine" 10 "PatchedMachine" "draft" "LPatchedMachine$Program;", .laysFinal "PatchedMachine" "PatchedMachine" "draft" "LPatchedMachine$Program;", .laysFinal "PatchedMachine" "PatchedMachine" "line" "LPatchedMachine$PatchLine;", .laysFinal "PatchedMachine" "PatchedMachine" "checker" "LPatchedMachine$Checker;", .laysFinal "PatchedMachine" "PatchedMachine" "runner" "LPatchedMachine$Runner;", .lays "PatchedMachine" "PatchedMachine" "applied" "I", .lays "PatchedMachine" "PatchedMachine" "moved" "I", .methodLinkNest "PatchedMachine" 111 y_P_touchesAnything "PatchedMachine", .code y_P_touchesAnything prog_8_method_6_code 1 (some .boolean), .initialized "PatchedMachine$Program", .instanceMethod y_P_touchesAnything, .selects "PatchedMachine$Program" y_P_touchesAnything y_P_touchesAnything, .fieldLink "PatchedMachine" 19 "PatchedMachine" "line" "LPatchedMachine$PatchLine;", .methodLinkNest "PatchedMachine" 75 y_Q_newest "PatchedMachine", .code y_Q_newest prog_6_method_4_code 1 (some (.object "PatchedMachine$Program")), .initialized "PatchedMachine$PatchLine", .instanceMethod y_Q_newest, .selects "PatchedMachine$PatchLine" y_Q_newest y_Q_newest, .methodLinkNest "PatchedMachine" 114 y_P_beginAs "PatchedMachine", .code y_P_beginAs prog_8_method_8_code 2 none, .instanceMethod y_P_beginAs, .selects "PatchedMachine$Program" y_P_beginAs y_P_beginAs]
set_option maxRecDepth 100000 in
theorem u_X_drop : ∀ w ∈ t_X_drop, w ∈ am_tb := am_subI [374, 380, 382, 384, 386, 388, 390, 486, 489, 106, 488, 13, 375, 430, 433, 109, 432, 5, 490, 493, 492, 14] (by decide +kernel) (by decide +kernel)
set_option maxRecDepth 100000 in
theorem s_X_drop (l : Launch) : am_Sd l am_cl y_X_drop (am_ws y_X_drop prog_1_method_6_code 1 (some .boolean)) 4 90 f_X_drop :=
  am_meth (by decide +kernel) (Or.inr (Or.inl ⟨rfl, rfl⟩)) rfl (by decide) am_htc g_X_drop (am_ctx (cb := cb_X_drop) t_X_drop [(111, .invokevirtual 111), (75, .invokevirtual 75), (114, .invokevirtual 114)] "PatchedMachine" false [] [] u_X_drop rfl (by decide +kernel) (fun h => by cases h)
    (List.forall_mem_cons.mpr ⟨am_KVN (host := "PatchedMachine") (na := 0) u_X_drop (s_P_touchesAnything l) rfl (by decide +kernel) (by decide +kernel), (List.forall_mem_cons.mpr ⟨am_KVN (host := "PatchedMachine") (na := 0) u_X_drop (s_Q_newest l) rfl (by decide +kernel) (by decide +kernel), (List.forall_mem_cons.mpr ⟨am_KVN (host := "PatchedMachine") (na := 1) u_X_drop (s_P_beginAs l) rfl (by decide +kernel) (by decide +kernel), (fun _ h => absurd h List.not_mem_nil)⟩)⟩)⟩) (fun x t h => by cases h) (by decide +kernel))
def t_Q_isFull : List Jvm.Cond := [.fieldLink "PatchedMachine$PatchLine" 21 "PatchedMachine$PatchLine" "length" "I", .laysFinal "PatchedMachine$PatchLine" "PatchedMachine$PatchLine" "ring" "[LPatchedMachine$Program;", .lays "PatchedMachine$PatchLine" "PatchedMachine$PatchLine" "first" "I", .lays "PatchedMachine$PatchLine" "PatchedMachine$PatchLine" "length" "I"]
set_option maxRecDepth 100000 in
theorem u_Q_isFull : ∀ w ∈ t_Q_isFull, w ∈ am_tb := am_subI [238, 240, 242, 244] (by decide +kernel) (by decide +kernel)
set_option maxRecDepth 100000 in
theorem s_Q_isFull (l : Launch) : am_Sd l am_cl y_Q_isFull (am_ws y_Q_isFull prog_6_method_5_code 1 (some .boolean)) 0 0 f_Q_isFull :=
  am_meth (by decide +kernel) (Or.inr (Or.inl ⟨rfl, rfl⟩)) rfl (by decide) am_htc g_Q_isFull (am_ctx (cb := cb_Q_isFull) t_Q_isFull [] "PatchedMachine" false [] [] u_Q_isFull rfl (by decide +kernel) (fun h => by cases h)
    (fun _ h => absurd h List.not_mem_nil) (fun x t h => by cases h) (by decide +kernel))
def t_R_jumpsTo : List Jvm.Cond := [.fieldLink "PatchedMachine$Routine" 31 "PatchedMachine$Routine" "length" "I", .laysFinal "PatchedMachine$Routine" "PatchedMachine$Routine" "locals" "[I", .laysFinal "PatchedMachine$Routine" "PatchedMachine$Routine" "ops" "[I", .laysFinal "PatchedMachine$Routine" "PatchedMachine$Routine" "xs" "[I", .laysFinal "PatchedMachine$Routine" "PatchedMachine$Routine" "ys" "[I", .lays "PatchedMachine$Routine" "PatchedMachine$Routine" "parameters" "I", .lays "PatchedMachine$Routine" "PatchedMachine$Routine" "result" "I", .lays "PatchedMachine$Routine" "PatchedMachine$Routine" "length" "I", .fieldLink "PatchedMachine$Routine" 15 "PatchedMachine$Routine" "ops" "[I", .fieldLink "PatchedMachine$Routine" 18 "PatchedMachine$Routine" "xs" "[I"]
set_option maxRecDepth 100000 in
theorem u_R_jumpsTo : ∀ w ∈ t_R_jumpsTo, w ∈ am_tb := am_subI [186, 188, 190, 192, 194, 196, 198, 200, 169, 172] (by decide +kernel) (by decide +kernel)
set_option maxRecDepth 100000 in
theorem s_R_jumpsTo (l : Launch) : am_Sd l am_cl y_R_jumpsTo (am_ws y_R_jumpsTo prog_9_method_7_code 3 (some .boolean)) 0 0 f_R_jumpsTo :=
  am_meth (by decide +kernel) (Or.inr (Or.inl ⟨rfl, rfl⟩)) rfl (by decide) am_htc g_R_jumpsTo (am_ctx (cb := cb_R_jumpsTo) t_R_jumpsTo [] "PatchedMachine" false [] [] u_R_jumpsTo rfl (by decide +kernel) (fun h => by cases h)
    (fun _ h => absurd h List.not_mem_nil) (fun x t h => by cases h) (by decide +kernel))
def t_C_needEmpty : List Jvm.Cond := [.fieldLink "PatchedMachine$Checker" 15 "PatchedMachine$Checker" "height" "I", .laysFinal "PatchedMachine$Checker" "PatchedMachine$Checker" "stack" "[I", .lays "PatchedMachine$Checker" "PatchedMachine$Checker" "height" "I", .lays "PatchedMachine$Checker" "PatchedMachine$Checker" "bad" "Z", .fieldLink "PatchedMachine$Checker" 19 "PatchedMachine$Checker" "bad" "Z"]
set_option maxRecDepth 100000 in
theorem u_C_needEmpty : ∀ w ∈ t_C_needEmpty, w ∈ am_tb := am_subI [254, 256, 258, 260, 255] (by decide +kernel) (by decide +kernel)
set_option maxRecDepth 100000 in
theorem s_C_needEmpty (l : Launch) : am_Sd l am_cl y_C_needEmpty (am_ws y_C_needEmpty prog_2_method_10_code 1 none) 0 0 f_C_needEmpty :=
  am_meth (by decide +kernel) (Or.inr (Or.inr (Or.inl ⟨rfl, rfl⟩))) rfl (by decide) am_htc g_C_needEmpty (am_ctx (cb := cb_C_needEmpty) t_C_needEmpty [] "PatchedMachine" false [19] [] u_C_needEmpty rfl (by decide +kernel) (fun h => by cases h)
    (fun _ h => absurd h List.not_mem_nil) (fun x t h => by cases h) (by decide +kernel))
def t_C_put : List Jvm.Cond := [.fieldLink "PatchedMachine$Checker" 15 "PatchedMachine$Checker" "height" "I", .laysFinal "PatchedMachine$Checker" "PatchedMachine$Checker" "stack" "[I", .lays "PatchedMachine$Checker" "PatchedMachine$Checker" "height" "I", .lays "PatchedMachine$Checker" "PatchedMachine$Checker" "bad" "Z", .fieldLink "PatchedMachine$Checker" 19 "PatchedMachine$Checker" "bad" "Z", .fieldLink "PatchedMachine$Checker" 9 "PatchedMachine$Checker" "stack" "[I"]
set_option maxRecDepth 100000 in
theorem u_C_put : ∀ w ∈ t_C_put, w ∈ am_tb := am_subI [254, 256, 258, 260, 255, 253] (by decide +kernel) (by decide +kernel)
set_option maxRecDepth 100000 in
theorem s_C_put (l : Launch) : am_Sd l am_cl y_C_put (am_ws y_C_put prog_2_method_14_code 2 none) 0 0 f_C_put :=
  am_meth (by decide +kernel) (Or.inr (Or.inr (Or.inl ⟨rfl, rfl⟩))) rfl (by decide) am_htc g_C_put (am_ctx (cb := cb_C_put) t_C_put [] "PatchedMachine" false [19, 15] [] u_C_put rfl (by decide +kernel) (fun h => by cases h)
    (fun _ h => absurd h List.not_mem_nil) (fun x t h => by cases h) (by decide +kernel))
def t_C_take : List Jvm.Cond := [.fieldLink "PatchedMachine$Checker" 15 "PatchedMachine$Checker" "height" "I", .laysFinal "PatchedMachine$Checker" "PatchedMachine$Checker" "stack" "[I", .lays "PatchedMachine$Checker" "PatchedMachine$Checker" "height" "I", .lays "PatchedMachine$Checker" "PatchedMachine$Checker" "bad" "Z", .fieldLink "PatchedMachine$Checker" 19 "PatchedMachine$Checker" "bad" "Z", .fieldLink "PatchedMachine$Checker" 9 "PatchedMachine$Checker" "stack" "[I"]
set_option maxRecDepth 100000 in
theorem u_C_take : ∀ w ∈ t_C_take, w ∈ am_tb := am_subI [254, 256, 258, 260, 255, 253] (by decide +kernel) (by decide +kernel)
set_option maxRecDepth 100000 in
theorem s_C_take (l : Launch) : am_Sd l am_cl y_C_take (am_ws y_C_take prog_2_method_13_code 2 none) 0 0 f_C_take :=
  am_meth (by decide +kernel) (Or.inr (Or.inr (Or.inl ⟨rfl, rfl⟩))) rfl (by decide) am_htc g_C_take (am_ctx (cb := cb_C_take) t_C_take [] "PatchedMachine" false [19, 15] [] u_C_take rfl (by decide +kernel) (fun h => by cases h)
    (fun _ h => absurd h List.not_mem_nil) (fun x t h => by cases h) (by decide +kernel))
def t_R_hasPlace : List Jvm.Cond := [.fieldLink "PatchedMachine$Routine" 31 "PatchedMachine$Routine" "length" "I", .laysFinal "PatchedMachine$Routine" "PatchedMachine$Routine" "locals" "[I", .laysFinal "PatchedMachine$Routine" "PatchedMachine$Routine" "ops" "[I", .laysFinal "PatchedMachine$Routine" "PatchedMachine$Routine" "xs" "[I", .laysFinal "PatchedMachine$Routine" "PatchedMachine$Routine" "ys" "[I", .lays "PatchedMachine$Routine" "PatchedMachine$Routine" "parameters" "I", .lays "PatchedMachine$Routine" "PatchedMachine$Routine" "result" "I", .lays "PatchedMachine$Routine" "PatchedMachine$Routine" "length" "I"]
set_option maxRecDepth 100000 in
theorem u_R_hasPlace : ∀ w ∈ t_R_hasPlace, w ∈ am_tb := am_subI [186, 188, 190, 192, 194, 196, 198, 200] (by decide +kernel) (by decide +kernel)
set_option maxRecDepth 100000 in
theorem s_R_hasPlace (l : Launch) : am_Sd l am_cl y_R_hasPlace (am_ws y_R_hasPlace prog_9_method_6_code 2 (some .boolean)) 0 0 f_R_hasPlace :=
  am_meth (by decide +kernel) (Or.inr (Or.inl ⟨rfl, rfl⟩)) rfl (by decide) am_htc g_R_hasPlace (am_ctx (cb := cb_R_hasPlace) t_R_hasPlace [] "PatchedMachine" false [] [] u_R_hasPlace rfl (by decide +kernel) (fun h => by cases h)
    (fun _ h => absurd h List.not_mem_nil) (fun x t h => by cases h) (by decide +kernel))
def t_C_checkJump : List Jvm.Cond := [.methodLink "PatchedMachine$Checker" 42 y_C_needEmpty, .code y_C_needEmpty prog_2_method_10_code 1 none, .initialized "PatchedMachine$Checker", .instanceMethod y_C_needEmpty, .selects "PatchedMachine$Checker" y_C_needEmpty y_C_needEmpty, .methodLinkNest "PatchedMachine$Checker" 102 y_R_hasPlace "PatchedMachine", .code y_R_hasPlace prog_9_method_6_code 2 (some .boolean), .initialized "PatchedMachine$Routine", .instanceMethod y_R_hasPlace, .selects "PatchedMachine$Routine" y_R_hasPlace y_R_hasPlace, .fieldLink "PatchedMachine$Checker" 19 "PatchedMachine$Checker" "bad" "Z", .laysFinal "PatchedMachine$Checker" "PatchedMachine$Checker" "stack" "[I", .lays "PatchedMachine$Checker" "PatchedMachine$Checker" "height" "I", .lays "PatchedMachine$Checker" "PatchedMachine$Checker" "bad" "Z"]
set_option maxRecDepth 100000 in
theorem u_C_checkJump : ∀ w ∈ t_C_checkJump, w ∈ am_tb := am_subI [530, 533, 110, 532, 22, 550, 553, 108, 552, 27, 255, 256, 258, 260] (by decide +kernel) (by decide +kernel)
set_option maxRecDepth 100000 in
theorem s_C_checkJump (l : Launch) : am_Sd l am_cl y_C_checkJump (am_ws y_C_checkJump prog_2_method_5_code 3 none) 1 21 f_C_checkJump :=
  am_meth (by decide +kernel) (Or.inr (Or.inr (Or.inl ⟨rfl, rfl⟩))) rfl (by decide) am_htc g_C_checkJump (am_ctx (cb := cb_C_checkJump) t_C_checkJump [(42, .invokevirtual 42), (102, .invokevirtual 102)] "PatchedMachine" false [19] [] u_C_checkJump rfl (by decide +kernel) (fun h => by cases h)
    (List.forall_mem_cons.mpr ⟨am_KV (na := 0) u_C_checkJump (s_C_needEmpty l) rfl (by decide +kernel) (by decide +kernel), (List.forall_mem_cons.mpr ⟨am_KVN (host := "PatchedMachine") (na := 1) u_C_checkJump (s_R_hasPlace l) rfl (by decide +kernel) (by decide +kernel), (fun _ h => absurd h List.not_mem_nil)⟩)⟩) (fun x t h => by cases h) (by decide +kernel))
def t_C_needField : List Jvm.Cond := [.fieldLink "PatchedMachine$Checker" 19 "PatchedMachine$Checker" "bad" "Z", .laysFinal "PatchedMachine$Checker" "PatchedMachine$Checker" "stack" "[I", .lays "PatchedMachine$Checker" "PatchedMachine$Checker" "height" "I", .lays "PatchedMachine$Checker" "PatchedMachine$Checker" "bad" "Z"]
set_option maxRecDepth 100000 in
theorem u_C_needField : ∀ w ∈ t_C_needField, w ∈ am_tb := am_subI [255, 256, 258, 260] (by decide +kernel) (by decide +kernel)
set_option maxRecDepth 100000 in
theorem s_C_needField (l : Launch) : am_Sd l am_cl y_C_needField (am_ws y_C_needField prog_2_method_11_code 2 none) 0 0 f_C_needField :=
  am_meth (by decide +kernel) (Or.inr (Or.inr (Or.inl ⟨rfl, rfl⟩))) rfl (by decide) am_htc g_C_needField (am_ctx (cb := cb_C_needField) t_C_needField [] "PatchedMachine" false [19] [] u_C_needField rfl (by decide +kernel) (fun h => by cases h)
    (fun _ h => absurd h List.not_mem_nil) (fun x t h => by cases h) (by decide +kernel))
def t_C_checkGet : List Jvm.Cond := [.methodLink "PatchedMachine$Checker" 65 y_C_take, .code y_C_take prog_2_method_13_code 2 none, .initialized "PatchedMachine$Checker", .instanceMethod y_C_take, .selects "PatchedMachine$Checker" y_C_take y_C_take, .methodLink "PatchedMachine$Checker" 105 y_C_needField, .code y_C_needField prog_2_method_11_code 2 none, .instanceMethod y_C_needField, .selects "PatchedMachine$Checker" y_C_needField y_C_needField, .methodLink "PatchedMachine$Checker" 59 y_C_put, .code y_C_put prog_2_method_14_code 2 none, .instanceMethod y_C_put, .selects "PatchedMachine$Checker" y_C_put y_C_put]
set_option maxRecDepth 100000 in
theorem u_C_checkGet : ∀ w ∈ t_C_checkGet, w ∈ am_tb := am_subI [542, 545, 110, 544, 25, 559, 562, 561, 29, 538, 541, 540, 24] (by decide +kernel) (by decide +kernel)
set_option maxRecDepth 100000 in
theorem s_C_checkGet (l : Launch) : am_Sd l am_cl y_C_checkGet (am_ws y_C_checkGet prog_2_method_6_code 3 none) 1 21 f_C_checkGet :=
  am_meth (by decide +kernel) (Or.inr (Or.inr (Or.inl ⟨rfl, rfl⟩))) rfl (by decide) am_htc g_C_checkGet (am_ctx (cb := cb_C_checkGet) t_C_checkGet [(65, .invokevirtual 65), (105, .invokevirtual 105), (59, .invokevirtual 59)] "PatchedMachine" false [] [] u_C_checkGet rfl (by decide +kernel) (fun h => by cases h)
    (List.forall_mem_cons.mpr ⟨am_KV (na := 1) u_C_checkGet (s_C_take l) rfl (by decide +kernel) (by decide +kernel), (List.forall_mem_cons.mpr ⟨am_KV (na := 1) u_C_checkGet (s_C_needField l) rfl (by decide +kernel) (by decide +kernel), (List.forall_mem_cons.mpr ⟨am_KV (na := 1) u_C_checkGet (s_C_put l) rfl (by decide +kernel) (by decide +kernel), (fun _ h => absurd h List.not_mem_nil)⟩)⟩)⟩) (fun x t h => by cases h) (by decide +kernel))
end
section
/-! printed by gen.py: contracts -/
def t_C_checkPut : List Jvm.Cond := [.methodLink "PatchedMachine$Checker" 105 y_C_needField, .code y_C_needField prog_2_method_11_code 2 none, .initialized "PatchedMachine$Checker", .instanceMethod y_C_needField, .selects "PatchedMachine$Checker" y_C_needField y_C_needField, .methodLink "PatchedMachine$Checker" 65 y_C_take, .code y_C_take prog_2_method_13_code 2 none, .instanceMethod y_C_take, .selects "PatchedMachine$Checker" y_C_take y_C_take]
set_option maxRecDepth 100000 in
theorem u_C_checkPut : ∀ w ∈ t_C_checkPut, w ∈ am_tb := am_subI [559, 562, 110, 561, 29, 542, 545, 544, 25] (by decide +kernel) (by decide +kernel)
set_option maxRecDepth 100000 in
theorem s_C_checkPut (l : Launch) : am_Sd l am_cl y_C_checkPut (am_ws y_C_checkPut prog_2_method_7_code 3 none) 1 21 f_C_checkPut :=
  am_meth (by decide +kernel) (Or.inr (Or.inr (Or.inl ⟨rfl, rfl⟩))) rfl (by decide) am_htc g_C_checkPut (am_ctx (cb := cb_C_checkPut) t_C_checkPut [(105, .invokevirtual 105), (65, .invokevirtual 65)] "PatchedMachine" false [] [] u_C_checkPut rfl (by decide +kernel) (fun h => by cases h)
    (List.forall_mem_cons.mpr ⟨am_KV (na := 1) u_C_checkPut (s_C_needField l) rfl (by decide +kernel) (by decide +kernel), (List.forall_mem_cons.mpr ⟨am_KV (na := 1) u_C_checkPut (s_C_take l) rfl (by decide +kernel) (by decide +kernel), (fun _ h => absurd h List.not_mem_nil)⟩)⟩) (fun x t h => by cases h) (by decide +kernel))
def t_R_isDefined : List Jvm.Cond := [.fieldLink "PatchedMachine$Routine" 31 "PatchedMachine$Routine" "length" "I", .laysFinal "PatchedMachine$Routine" "PatchedMachine$Routine" "locals" "[I", .laysFinal "PatchedMachine$Routine" "PatchedMachine$Routine" "ops" "[I", .laysFinal "PatchedMachine$Routine" "PatchedMachine$Routine" "xs" "[I", .laysFinal "PatchedMachine$Routine" "PatchedMachine$Routine" "ys" "[I", .lays "PatchedMachine$Routine" "PatchedMachine$Routine" "parameters" "I", .lays "PatchedMachine$Routine" "PatchedMachine$Routine" "result" "I", .lays "PatchedMachine$Routine" "PatchedMachine$Routine" "length" "I"]
set_option maxRecDepth 100000 in
theorem u_R_isDefined : ∀ w ∈ t_R_isDefined, w ∈ am_tb := am_subI [186, 188, 190, 192, 194, 196, 198, 200] (by decide +kernel) (by decide +kernel)
set_option maxRecDepth 100000 in
theorem s_R_isDefined (l : Launch) : am_Sd l am_cl y_R_isDefined (am_ws y_R_isDefined prog_9_method_3_code 1 (some .boolean)) 0 0 f_R_isDefined :=
  am_meth (by decide +kernel) (Or.inr (Or.inl ⟨rfl, rfl⟩)) rfl (by decide) am_htc g_R_isDefined (am_ctx (cb := cb_R_isDefined) t_R_isDefined [] "PatchedMachine" false [] [] u_R_isDefined rfl (by decide +kernel) (fun h => by cases h)
    (fun _ h => absurd h List.not_mem_nil) (fun x t h => by cases h) (by decide +kernel))
def t_C_checkCall : List Jvm.Cond := [.methodLinkNest "PatchedMachine$Checker" 108 y_R_isDefined "PatchedMachine", .code y_R_isDefined prog_9_method_3_code 1 (some .boolean), .initialized "PatchedMachine$Routine", .instanceMethod y_R_isDefined, .selects "PatchedMachine$Routine" y_R_isDefined y_R_isDefined, .fieldLink "PatchedMachine$Checker" 19 "PatchedMachine$Checker" "bad" "Z", .laysFinal "PatchedMachine$Checker" "PatchedMachine$Checker" "stack" "[I", .lays "PatchedMachine$Checker" "PatchedMachine$Checker" "height" "I", .lays "PatchedMachine$Checker" "PatchedMachine$Checker" "bad" "Z", .fieldLinkNest "PatchedMachine$Checker" 112 "PatchedMachine$Routine" "parameters" "I" "PatchedMachine", .laysFinal "PatchedMachine$Routine" "PatchedMachine$Routine" "locals" "[I", .laysFinal "PatchedMachine$Routine" "PatchedMachine$Routine" "ops" "[I", .laysFinal "PatchedMachine$Routine" "PatchedMachine$Routine" "xs" "[I", .laysFinal "PatchedMachine$Routine" "PatchedMachine$Routine" "ys" "[I", .lays "PatchedMachine$Routine" "PatchedMachine$Routine" "parameters" "I", .lays "PatchedMachine$Routine" "PatchedMachine$Routine" "result" "I", .lays "PatchedMachine$Routine" "PatchedMachine$Routine" "length" "I", .fieldLinkNest "PatchedMachine$Checker" 62 "PatchedMachine$Routine" "locals" "[I" "PatchedMachine", .methodLink "PatchedMachine$Checker" 65 y_C_take, .code y_C_take prog_2_method_13_code 2 none, .initialized "PatchedMachine$Checker", .instanceMethod y_C_take, .selects "PatchedMachine$Checker" y_C_take y_C_take, .fieldLinkNest "PatchedMachine$Checker" 96 "PatchedMachine$Routine" "result" "I" "PatchedMachine", .methodLink "PatchedMachine$Checker" 59 y_C_put, .code y_C_put prog_2_method_14_code 2 none, .instanceMethod y_C_put, .selects "PatchedMachine$Checker" y_C_put y_C_put]
set_option maxRecDepth 100000 in
theorem u_C_checkCall : ∀ w ∈ t_C_checkCall, w ∈ am_tb := am_subI [571, 574, 108, 573, 32, 255, 256, 258, 260, 179, 188, 190, 192, 194, 196, 198, 200, 167, 542, 545, 110, 544, 25, 183, 538, 541, 540, 24] (by decide +kernel) (by decide +kernel)
set_option maxRecDepth 100000 in
theorem s_C_checkCall (l : Launch) : am_Sd l am_cl y_C_checkCall (am_ws y_C_checkCall prog_2_method_8_code 3 none) 1 21 f_C_checkCall :=
  am_meth (by decide +kernel) (Or.inr (Or.inr (Or.inl ⟨rfl, rfl⟩))) rfl (by decide) am_htc g_C_checkCall (am_ctx (cb := cb_C_checkCall) t_C_checkCall [(108, .invokevirtual 108), (65, .invokevirtual 65), (59, .invokevirtual 59)] "PatchedMachine" false [19] [] u_C_checkCall rfl (by decide +kernel) (fun h => by cases h)
    (List.forall_mem_cons.mpr ⟨am_KVN (host := "PatchedMachine") (na := 0) u_C_checkCall (s_R_isDefined l) rfl (by decide +kernel) (by decide +kernel), (List.forall_mem_cons.mpr ⟨am_KV (na := 1) u_C_checkCall (s_C_take l) rfl (by decide +kernel) (by decide +kernel), (List.forall_mem_cons.mpr ⟨am_KV (na := 1) u_C_checkCall (s_C_put l) rfl (by decide +kernel) (by decide +kernel), (fun _ h => absurd h List.not_mem_nil)⟩)⟩)⟩) (fun x t h => by cases h) (by decide +kernel))
def t_C_takeTwoPutInt : List Jvm.Cond := [.methodLink "PatchedMachine$Checker" 65 y_C_take, .code y_C_take prog_2_method_13_code 2 none, .initialized "PatchedMachine$Checker", .instanceMethod y_C_take, .selects "PatchedMachine$Checker" y_C_take y_C_take, .methodLink "PatchedMachine$Checker" 59 y_C_put, .code y_C_put prog_2_method_14_code 2 none, .instanceMethod y_C_put, .selects "PatchedMachine$Checker" y_C_put y_C_put]
set_option maxRecDepth 100000 in
theorem u_C_takeTwoPutInt : ∀ w ∈ t_C_takeTwoPutInt, w ∈ am_tb := am_subI [542, 545, 110, 544, 25, 538, 541, 540, 24] (by decide +kernel) (by decide +kernel)
set_option maxRecDepth 100000 in
theorem s_C_takeTwoPutInt (l : Launch) : am_Sd l am_cl y_C_takeTwoPutInt (am_ws y_C_takeTwoPutInt prog_2_method_9_code 2 none) 1 21 f_C_takeTwoPutInt :=
  am_meth (by decide +kernel) (Or.inr (Or.inr (Or.inl ⟨rfl, rfl⟩))) rfl (by decide) am_htc g_C_takeTwoPutInt (am_ctx (cb := cb_C_takeTwoPutInt) t_C_takeTwoPutInt [(65, .invokevirtual 65), (59, .invokevirtual 59)] "PatchedMachine" false [] [] u_C_takeTwoPutInt rfl (by decide +kernel) (fun h => by cases h)
    (List.forall_mem_cons.mpr ⟨am_KV (na := 1) u_C_takeTwoPutInt (s_C_take l) rfl (by decide +kernel) (by decide +kernel), (List.forall_mem_cons.mpr ⟨am_KV (na := 1) u_C_takeTwoPutInt (s_C_put l) rfl (by decide +kernel) (by decide +kernel), (fun _ h => absurd h List.not_mem_nil)⟩)⟩) (fun x t h => by cases h) (by decide +kernel))
def t_C_check : List Jvm.Cond := [.fieldLinkNest "PatchedMachine$Checker" 56 "PatchedMachine$Routine" "xs" "[I" "PatchedMachine", .laysFinal "PatchedMachine$Routine" "PatchedMachine$Routine" "locals" "[I", .laysFinal "PatchedMachine$Routine" "PatchedMachine$Routine" "ops" "[I", .laysFinal "PatchedMachine$Routine" "PatchedMachine$Routine" "xs" "[I", .laysFinal "PatchedMachine$Routine" "PatchedMachine$Routine" "ys" "[I", .lays "PatchedMachine$Routine" "PatchedMachine$Routine" "parameters" "I", .lays "PatchedMachine$Routine" "PatchedMachine$Routine" "result" "I", .lays "PatchedMachine$Routine" "PatchedMachine$Routine" "length" "I", .fieldLinkNest "PatchedMachine$Checker" 49 "PatchedMachine$Routine" "ops" "[I" "PatchedMachine", .methodLink "PatchedMachine$Checker" 59 y_C_put, .code y_C_put prog_2_method_14_code 2 none, .initialized "PatchedMachine$Checker", .instanceMethod y_C_put, .selects "PatchedMachine$Checker" y_C_put y_C_put, .fieldLinkNest "PatchedMachine$Checker" 62 "PatchedMachine$Routine" "locals" "[I" "PatchedMachine", .methodLink "PatchedMachine$Checker" 65 y_C_take, .code y_C_take prog_2_method_13_code 2 none, .instanceMethod y_C_take, .selects "PatchedMachine$Checker" y_C_take y_C_take, .methodLink "PatchedMachine$Checker" 68 y_C_checkJump, .code y_C_checkJump prog_2_method_5_code 3 none, .instanceMethod y_C_checkJump, .selects "PatchedMachine$Checker" y_C_checkJump y_C_checkJump, .fieldLinkNest "PatchedMachine$Checker" 72 "PatchedMachine$Program" "layouts" "[LPatchedMachine$Layout;" "PatchedMachine", .laysFinal "PatchedMachine$Program" "PatchedMachine$Program" "layouts" "[LPatchedMachine$Layout;", .laysFinal "PatchedMachine$Program" "PatchedMachine$Program" "routines" "[LPatchedMachine$Routine;", .lays "PatchedMachine$Program" "PatchedMachine$Program" "touchedClasses" "I", .lays "PatchedMachine$Program" "PatchedMachine$Program" "touchedMethods" "I", .lays "PatchedMachine$Program" "PatchedMachine$Program" "restrictedMethods" "I", .fieldLinkNest "PatchedMachine$Checker" 76 "PatchedMachine$Routine" "ys" "[I" "PatchedMachine", .methodLinkNest "PatchedMachine$Checker" 79 y_L_typeNamed "PatchedMachine", .code y_L_typeNamed prog_5_method_6_code 3 (some .int), .initialized "PatchedMachine$Layout", .instanceMethod y_L_typeNamed, .selects "PatchedMachine$Layout" y_L_typeNamed y_L_typeNamed, .methodLink "PatchedMachine$Checker" 85 y_C_checkGet, .code y_C_checkGet prog_2_method_6_code 3 none, .instanceMethod y_C_checkGet, .selects "PatchedMachine$Checker" y_C_checkGet y_C_checkGet, .methodLink "PatchedMachine$Checker" 89 y_C_checkPut, .code y_C_checkPut prog_2_method_7_code 3 none, .instanceMethod y_C_checkPut, .selects "PatchedMachine$Checker" y_C_checkPut y_C_checkPut, .fieldLinkNest "PatchedMachine$Checker" 23 "PatchedMachine$Program" "routines" "[LPatchedMachine$Routine;" "PatchedMachine", .methodLink "PatchedMachine$Checker" 92 y_C_checkCall, .code y_C_checkCall prog_2_method_8_code 3 none, .instanceMethod y_C_checkCall, .selects "PatchedMachine$Checker" y_C_checkCall y_C_checkCall, .fieldLinkNest "PatchedMachine$Checker" 96 "PatchedMachine$Routine" "result" "I" "PatchedMachine", .methodLink "PatchedMachine$Checker" 42 y_C_needEmpty, .code y_C_needEmpty prog_2_method_10_code 1 none, .instanceMethod y_C_needEmpty, .selects "PatchedMachine$Checker" y_C_needEmpty y_C_needEmpty, .methodLink "PatchedMachine$Checker" 99 y_C_takeTwoPutInt, .code y_C_takeTwoPutInt prog_2_method_9_code 2 none, .instanceMethod y_C_takeTwoPutInt, .selects "PatchedMachine$Checker" y_C_takeTwoPutInt y_C_takeTwoPutInt]
set_option maxRecDepth 100000 in
theorem u_C_check : ∀ w ∈ t_C_check, w ∈ am_tb := am_subI [173, 188, 190, 192, 194, 196, 198, 200, 170, 538, 541, 110, 540, 24, 167, 542, 545, 544, 25, 546, 549, 548, 26, 205, 216, 218, 220, 222, 224, 176, 554, 437, 107, 436, 6, 555, 558, 557, 28, 563, 566, 565, 30, 209, 567, 570, 569, 31, 183, 530, 533, 532, 22, 575, 578, 577, 33] (by decide +kernel) (by decide +kernel)
set_option maxRecDepth 100000 in
theorem s_C_check (l : Launch) : am_Sd l am_cl y_C_check (am_ws y_C_check prog_2_method_4_code 5 none) 2 44 f_C_check :=
  am_meth (by decide +kernel) (Or.inr (Or.inr (Or.inl ⟨rfl, rfl⟩))) rfl (by decide) am_htc g_C_check (am_ctx (cb := cb_C_check) t_C_check [(59, .invokevirtual 59), (65, .invokevirtual 65), (68, .invokevirtual 68), (79, .invokevirtual 79), (85, .invokevirtual 85), (89, .invokevirtual 89), (92, .invokevirtual 92), (42, .invokevirtual 42), (99, .invokevirtual 99)] "PatchedMachine" false [] [] u_C_check rfl (by decide +kernel) (fun h => by cases h)
    (List.forall_mem_cons.mpr ⟨am_KV (na := 1) u_C_check (s_C_put l) rfl (by decide +kernel) (by decide +kernel), (List.forall_mem_cons.mpr ⟨am_KV (na := 1) u_C_check (s_C_take l) rfl (by decide +kernel) (by decide +kernel), (List.forall_mem_cons.mpr ⟨am_KV (na := 2) u_C_check (s_C_checkJump l) rfl (by decide +kernel) (by decide +kernel), (List.forall_mem_cons.mpr ⟨am_KVN (host := "PatchedMachine") (na := 1) u_C_check (s_L_typeNamed l) rfl (by decide +kernel) (by decide +kernel), (List.forall_mem_cons.mpr ⟨am_KV (na := 2) u_C_check (s_C_checkGet l) rfl (by decide +kernel) (by decide +kernel), (List.forall_mem_cons.mpr ⟨am_KV (na := 2) u_C_check (s_C_checkPut l) rfl (by decide +kernel) (by decide +kernel), (List.forall_mem_cons.mpr ⟨am_KV (na := 1) u_C_check (s_C_checkCall l) rfl (by decide +kernel) (by decide +kernel), (List.forall_mem_cons.mpr ⟨am_KV (na := 0) u_C_check (s_C_needEmpty l) rfl (by decide +kernel) (by decide +kernel), (List.forall_mem_cons.mpr ⟨am_KV (na := 1) u_C_check (s_C_takeTwoPutInt l) rfl (by decide +kernel) (by decide +kernel), (fun _ h => absurd h List.not_mem_nil)⟩)⟩)⟩)⟩)⟩)⟩)⟩)⟩)⟩) (fun x t h => by cases h) (by decide +kernel))
def t_C_needNoWayOut : List Jvm.Cond := [.fieldLink "PatchedMachine$Checker" 19 "PatchedMachine$Checker" "bad" "Z", .laysFinal "PatchedMachine$Checker" "PatchedMachine$Checker" "stack" "[I", .lays "PatchedMachine$Checker" "PatchedMachine$Checker" "height" "I", .lays "PatchedMachine$Checker" "PatchedMachine$Checker" "bad" "Z"]
set_option maxRecDepth 100000 in
theorem u_C_needNoWayOut : ∀ w ∈ t_C_needNoWayOut, w ∈ am_tb := am_subI [255, 256, 258, 260] (by decide +kernel) (by decide +kernel)
set_option maxRecDepth 100000 in
theorem s_C_needNoWayOut (l : Launch) : am_Sd l am_cl y_C_needNoWayOut (am_ws y_C_needNoWayOut prog_2_method_12_code 2 none) 0 0 f_C_needNoWayOut :=
  am_meth (by decide +kernel) (Or.inr (Or.inr (Or.inl ⟨rfl, rfl⟩))) rfl (by decide) am_htc g_C_needNoWayOut (am_ctx (cb := cb_C_needNoWayOut) t_C_needNoWayOut [] "PatchedMachine" false [19] [] u_C_needNoWayOut rfl (by decide +kernel) (fun h => by cases h)
    (fun _ h => absurd h List.not_mem_nil) (fun x t h => by cases h) (by decide +kernel))
def t_C_firstBadPlaceOf : List Jvm.Cond := [.fieldLink "PatchedMachine$Checker" 15 "PatchedMachine$Checker" "height" "I", .laysFinal "PatchedMachine$Checker" "PatchedMachine$Checker" "stack" "[I", .lays "PatchedMachine$Checker" "PatchedMachine$Checker" "height" "I", .lays "PatchedMachine$Checker" "PatchedMachine$Checker" "bad" "Z", .fieldLink "PatchedMachine$Checker" 19 "PatchedMachine$Checker" "bad" "Z", .fieldLinkNest "PatchedMachine$Checker" 33 "PatchedMachine$Routine" "length" "I" "PatchedMachine", .laysFinal "PatchedMachine$Routine" "PatchedMachine$Routine" "locals" "[I", .laysFinal "PatchedMachine$Routine" "PatchedMachine$Routine" "ops" "[I", .laysFinal "PatchedMachine$Routine" "PatchedMachine$Routine" "xs" "[I", .laysFinal "PatchedMachine$Routine" "PatchedMachine$Routine" "ys" "[I", .lays "PatchedMachine$Routine" "PatchedMachine$Routine" "parameters" "I", .lays "PatchedMachine$Routine" "PatchedMachine$Routine" "result" "I", .lays "PatchedMachine$Routine" "PatchedMachine$Routine" "length" "I", .methodLinkNest "PatchedMachine$Checker" 38 y_R_jumpsTo "PatchedMachine", .code y_R_jumpsTo prog_9_method_7_code 3 (some .boolean), .initialized "PatchedMachine$Routine", .instanceMethod y_R_jumpsTo, .selects "PatchedMachine$Routine" y_R_jumpsTo y_R_jumpsTo, .methodLink "PatchedMachine$Checker" 42 y_C_needEmpty, .code y_C_needEmpty prog_2_method_10_code 1 none, .initialized "PatchedMachine$Checker", .instanceMethod y_C_needEmpty, .selects "PatchedMachine$Checker" y_C_needEmpty y_C_needEmpty, .methodLink "PatchedMachine$Checker" 45 y_C_check, .code y_C_check prog_2_method_4_code 5 none, .instanceMethod y_C_check, .selects "PatchedMachine$Checker" y_C_check y_C_check, .fieldLinkNest "PatchedMachine$Checker" 49 "PatchedMachine$Routine" "ops" "[I" "PatchedMachine", .methodLink "PatchedMachine$Checker" 52 y_C_needNoWayOut, .code y_C_needNoWayOut prog_2_method_12_code 2 none, .instanceMethod y_C_needNoWayOut, .selects "PatchedMachine$Checker" y_C_needNoWayOut y_C_needNoWayOut]
set_option maxRecDepth 100000 in
theorem u_C_firstBadPlaceOf : ∀ w ∈ t_C_firstBadPlaceOf, w ∈ am_tb := am_subI [254, 256, 258, 260, 255, 187, 188, 190, 192, 194, 196, 198, 200, 526, 529, 108, 528, 21, 530, 533, 110, 532, 22, 534, 537, 536, 23, 170, 579, 582, 581, 34] (by decide +kernel) (by decide +kernel)
set_option maxRecDepth 100000 in
theorem s_C_firstBadPlaceOf (l : Launch) : am_Sd l am_cl y_C_firstBadPlaceOf (am_ws y_C_firstBadPlaceOf prog_2_method_3_code 4 (some .int)) 3 68 f_C_firstBadPlaceOf :=
  am_meth (by decide +kernel) (Or.inl ⟨rfl, rfl⟩) rfl (by decide) am_htc g_C_firstBadPlaceOf (am_ctx (cb := cb_C_firstBadPlaceOf) t_C_firstBadPlaceOf [(38, .invokevirtual 38), (42, .invokevirtual 42), (45, .invokevirtual 45), (52, .invokevirtual 52)] "PatchedMachine" false [15, 19] [] u_C_firstBadPlaceOf rfl (by decide +kernel) (fun h => by cases h)
    (List.forall_mem_cons.mpr ⟨am_KVN (host := "PatchedMachine") (na := 1) u_C_firstBadPlaceOf (s_R_jumpsTo l) rfl (by decide +kernel) (by decide +kernel), (List.forall_mem_cons.mpr ⟨am_KV (na := 0) u_C_firstBadPlaceOf (s_C_needEmpty l) rfl (by decide +kernel) (by decide +kernel), (List.forall_mem_cons.mpr ⟨am_KV (na := 3) u_C_firstBadPlaceOf (s_C_check l) rfl (by decide +kernel) (by decide +kernel), (List.forall_mem_cons.mpr ⟨am_KV (na := 1) u_C_firstBadPlaceOf (s_C_needNoWayOut l) rfl (by decide +kernel) (by decide +kernel), (fun _ h => absurd h List.not_mem_nil)⟩)⟩)⟩)⟩) (fun x t h => by cases h) (by decide +kernel))
def t_C_firstBadPlace : List Jvm.Cond := [.fieldLinkNest "PatchedMachine$Checker" 23 "PatchedMachine$Program" "routines" "[LPatchedMachine$Routine;" "PatchedMachine", .laysFinal "PatchedMachine$Program" "PatchedMachine$Program" "layouts" "[LPatchedMachine$Layout;", .laysFinal "PatchedMachine$Program" "PatchedMachine$Program" "routines" "[LPatchedMachine$Routine;", .lays "PatchedMachine$Program" "PatchedMachine$Program" "touchedClasses" "I", .lays "PatchedMachine$Program" "PatchedMachine$Program" "touchedMethods" "I", .lays "PatchedMachine$Program" "PatchedMachine$Program" "restrictedMethods" "I", .methodLink "PatchedMachine$Checker" 29 y_C_firstBadPlaceOf, .code y_C_firstBadPlaceOf prog_2_method_3_code 4 (some .int), .initialized "PatchedMachine$Checker", .instanceMethod y_C_firstBadPlaceOf, .selects "PatchedMachine$Checker" y_C_firstBadPlaceOf y_C_firstBadPlaceOf]
set_option maxRecDepth 100000 in
theorem u_C_firstBadPlace : ∀ w ∈ t_C_firstBadPlace, w ∈ am_tb := am_subI [209, 216, 218, 220, 222, 224, 522, 525, 110, 524, 20] (by decide +kernel) (by decide +kernel)
set_option maxRecDepth 100000 in
theorem s_C_firstBadPlace (l : Launch) : am_Sd l am_cl y_C_firstBadPlace (am_ws y_C_firstBadPlace prog_2_method_2_code 4 (some .int)) 4 91 f_C_firstBadPlace :=
  am_meth (by decide +kernel) (Or.inl ⟨rfl, rfl⟩) rfl (by decide) am_htc g_C_firstBadPlace (am_ctx (cb := cb_C_firstBadPlace) t_C_firstBadPlace [(29, .invokevirtual 29)] "PatchedMachine" false [] [] u_C_firstBadPlace rfl (by decide +kernel) (fun h => by cases h)
    (List.forall_mem_cons.mpr ⟨am_KV (na := 2) u_C_firstBadPlace (s_C_firstBadPlaceOf l) rfl (by decide +kernel) (by decide +kernel), (fun _ h => absurd h List.not_mem_nil)⟩) (fun x t h => by cases h) (by decide +kernel))
def t_R_isCalledLike : List Jvm.Cond := [.fieldLink "PatchedMachine$Routine" 24 "PatchedMachine$Routine" "parameters" "I", .laysFinal "PatchedMachine$Routine" "PatchedMachine$Routine" "locals" "[I", .laysFinal "PatchedMachine$Routine" "PatchedMachine$Routine" "ops" "[I", .laysFinal "PatchedMachine$Routine" "PatchedMachine$Routine" "xs" "[I", .laysFinal "PatchedMachine$Routine" "PatchedMachine$Routine" "ys" "[I", .lays "PatchedMachine$Routine" "PatchedMachine$Routine" "parameters" "I", .lays "PatchedMachine$Routine" "PatchedMachine$Routine" "result" "I", .lays "PatchedMachine$Routine" "PatchedMachine$Routine" "length" "I", .fieldLink "PatchedMachine$Routine" 28 "PatchedMachine$Routine" "result" "I", .fieldLink "PatchedMachine$Routine" 9 "PatchedMachine$Routine" "locals" "[I"]
set_option maxRecDepth 100000 in
theorem u_R_isCalledLike : ∀ w ∈ t_R_isCalledLike, w ∈ am_tb := am_subI [178, 188, 190, 192, 194, 196, 198, 200, 182, 166] (by decide +kernel) (by decide +kernel)
set_option maxRecDepth 100000 in
theorem s_R_isCalledLike (l : Launch) : am_Sd l am_cl y_R_isCalledLike (am_ws y_R_isCalledLike prog_9_method_10_code 3 (some .boolean)) 0 0 f_R_isCalledLike :=
  am_meth (by decide +kernel) (Or.inr (Or.inl ⟨rfl, rfl⟩)) rfl (by decide) am_htc g_R_isCalledLike (am_ctx (cb := cb_R_isCalledLike) t_R_isCalledLike [] "PatchedMachine" false [] [] u_R_isCalledLike rfl (by decide +kernel) (fun h => by cases h)
    (fun _ h => absurd h List.not_mem_nil) (fun x t h => by cases h) (by decide +kernel))
def t_P_methodsCalledOtherwise : List Jvm.Cond := [.fieldLink "PatchedMachine$Program" 19 "PatchedMachine$Program" "routines" "[LPatchedMachine$Routine;", .laysFinal "PatchedMachine$Program" "PatchedMachine$Program" "layouts" "[LPatchedMachine$Layout;", .laysFinal "PatchedMachine$Program" "PatchedMachine$Program" "routines" "[LPatchedMachine$Routine;", .lays "PatchedMachine$Program" "PatchedMachine$Program" "touchedClasses" "I", .lays "PatchedMachine$Program" "PatchedMachine$Program" "touchedMethods" "I", .lays "PatchedMachine$Program" "PatchedMachine$Program" "restrictedMethods" "I", .methodLinkNest "PatchedMachine$Program" 63 y_R_isCalledLike "PatchedMachine", .code y_R_isCalledLike prog_9_method_10_code 3 (some .boolean), .initialized "PatchedMachine$Routine", .instanceMethod y_R_isCalledLike, .selects "PatchedMachine$Routine" y_R_isCalledLike y_R_isCalledLike]
set_option maxRecDepth 100000 in
theorem u_P_methodsCalledOtherwise : ∀ w ∈ t_P_methodsCalledOtherwise, w ∈ am_tb := am_subI [208, 216, 218, 220, 222, 224, 591, 594, 108, 593, 37] (by decide +kernel) (by decide +kernel)
set_option maxRecDepth 100000 in
theorem s_P_methodsCalledOtherwise (l : Launch) : am_Sd l am_cl y_P_methodsCalledOtherwise (am_ws y_P_methodsCalledOtherwise prog_8_method_10_code 4 (some .int)) 1 22 f_P_methodsCalledOtherwise :=
  am_meth (by decide +kernel) (Or.inl ⟨rfl, rfl⟩) rfl (by decide) am_htc g_P_methodsCalledOtherwise (am_ctx (cb := cb_P_methodsCalledOtherwise) t_P_methodsCalledOtherwise [(63, .invokevirtual 63)] "PatchedMachine" false [] [] u_P_methodsCalledOtherwise rfl (by decide +kernel) (fun h => by cases h)
    (List.forall_mem_cons.mpr ⟨am_KVN (host := "PatchedMachine") (na := 1) u_P_methodsCalledOtherwise (s_R_isCalledLike l) rfl (by decide +kernel) (by decide +kernel), (fun _ h => absurd h List.not_mem_nil)⟩) (fun x t h => by cases h) (by decide +kernel))
def t_R_usesOneOfClasses : List Jvm.Cond := [.fieldLink "PatchedMachine$Routine" 31 "PatchedMachine$Routine" "length" "I", .laysFinal "PatchedMachine$Routine" "PatchedMachine$Routine" "locals" "[I", .laysFinal "PatchedMachine$Routine" "PatchedMachine$Routine" "ops" "[I", .laysFinal "PatchedMachine$Routine" "PatchedMachine$Routine" "xs" "[I", .laysFinal "PatchedMachine$Routine" "PatchedMachine$Routine" "ys" "[I", .lays "PatchedMachine$Routine" "PatchedMachine$Routine" "parameters" "I", .lays "PatchedMachine$Routine" "PatchedMachine$Routine" "result" "I", .lays "PatchedMachine$Routine" "PatchedMachine$Routine" "length" "I", .fieldLink "PatchedMachine$Routine" 15 "PatchedMachine$Routine" "ops" "[I", .fieldLink "PatchedMachine$Routine" 18 "PatchedMachine$Routine" "xs" "[I"]
set_option maxRecDepth 100000 in
theorem u_R_usesOneOfClasses : ∀ w ∈ t_R_usesOneOfClasses, w ∈ am_tb := am_subI [186, 188, 190, 192, 194, 196, 198, 200, 169, 172] (by decide +kernel) (by decide +kernel)
set_option maxRecDepth 100000 in
theorem s_R_usesOneOfClasses (l : Launch) : am_Sd l am_cl y_R_usesOneOfClasses (am_ws y_R_usesOneOfClasses prog_9_method_8_code 4 (some .boolean)) 0 0 f_R_usesOneOfClasses :=
  am_meth (by decide +kernel) (Or.inr (Or.inl ⟨rfl, rfl⟩)) rfl (by decide) am_htc g_R_usesOneOfClasses (am_ctx (cb := cb_R_usesOneOfClasses) t_R_usesOneOfClasses [] "PatchedMachine" false [] [] u_R_usesOneOfClasses rfl (by decide +kernel) (fun h => by cases h)
    (fun _ h => absurd h List.not_mem_nil) (fun x t h => by cases h) (by decide +kernel))
def t_R_callsOneOfMethods : List Jvm.Cond := [.fieldLink "PatchedMachine$Routine" 31 "PatchedMachine$Routine" "length" "I", .laysFinal "PatchedMachine$Routine" "PatchedMachine$Routine" "locals" "[I", .laysFinal "PatchedMachine$Routine" "PatchedMachine$Routine" "ops" "[I", .laysFinal "PatchedMachine$Routine" "PatchedMachine$Routine" "xs" "[I", .laysFinal "PatchedMachine$Routine" "PatchedMachine$Routine" "ys" "[I", .lays "PatchedMachine$Routine" "PatchedMachine$Routine" "parameters" "I", .lays "PatchedMachine$Routine" "PatchedMachine$Routine" "result" "I", .lays "PatchedMachine$Routine" "PatchedMachine$Routine" "length" "I", .fieldLink "PatchedMachine$Routine" 15 "PatchedMachine$Routine" "ops" "[I", .fieldLink "PatchedMachine$Routine" 18 "PatchedMachine$Routine" "xs" "[I"]
set_option maxRecDepth 100000 in
theorem u_R_callsOneOfMethods : ∀ w ∈ t_R_callsOneOfMethods, w ∈ am_tb := am_subI [186, 188, 190, 192, 194, 196, 198, 200, 169, 172] (by decide +kernel) (by decide +kernel)
set_option maxRecDepth 100000 in
theorem s_R_callsOneOfMethods (l : Launch) : am_Sd l am_cl y_R_callsOneOfMethods (am_ws y_R_callsOneOfMethods prog_9_method_9_code 3 (some .boolean)) 0 0 f_R_callsOneOfMethods :=
  am_meth (by decide +kernel) (Or.inr (Or.inl ⟨rfl, rfl⟩)) rfl (by decide) am_htc g_R_callsOneOfMethods (am_ctx (cb := cb_R_callsOneOfMethods) t_R_callsOneOfMethods [] "PatchedMachine" false [] [] u_R_callsOneOfMethods rfl (by decide +kernel) (fun h => by cases h)
    (fun _ h => absurd h List.not_mem_nil) (fun x t h => by cases h) (by decide +kernel))
def t_P_restrict : List Jvm.Cond := [.methodLink "PatchedMachine$Program" 52 y_P_methodsCalledOtherwise, .code y_P_methodsCalledOtherwise prog_8_method_10_code 4 (some .int), .initialized "PatchedMachine$Program", .instanceMethod y_P_methodsCalledOtherwise, .selects "PatchedMachine$Program" y_P_methodsCalledOtherwise y_P_methodsCalledOtherwise, .fieldLink "PatchedMachine$Program" 27 "PatchedMachine$Program" "touchedMethods" "I", .laysFinal "PatchedMachine$Program" "PatchedMachine$Program" "layouts" "[LPatchedMachine$Layout;", .laysFinal "PatchedMachine$Program" "PatchedMachine$Program" "routines" "[LPatchedMachine$Routine;", .lays "PatchedMachine$Program" "PatchedMachine$Program" "touchedClasses" "I", .lays "PatchedMachine$Program" "PatchedMachine$Program" "touchedMethods" "I", .lays "PatchedMachine$Program" "PatchedMachine$Program" "restrictedMethods" "I", .fieldLink "PatchedMachine$Program" 30 "PatchedMachine$Program" "restrictedMethods" "I", .fieldLink "PatchedMachine$Program" 19 "PatchedMachine$Program" "routines" "[LPatchedMachine$Routine;", .fieldLink "PatchedMachine$Program" 23 "PatchedMachine$Program" "touchedClasses" "I", .methodLinkNest "PatchedMachine$Program" 56 y_R_usesOneOfClasses "PatchedMachine", .code y_R_usesOneOfClasses prog_9_method_8_code 4 (some .boolean), .initialized "PatchedMachine$Routine", .instanceMethod y_R_usesOneOfClasses, .selects "PatchedMachine$Routine" y_R_usesOneOfClasses y_R_usesOneOfClasses, .methodLinkNest "PatchedMachine$Program" 60 y_R_callsOneOfMethods "PatchedMachine", .code y_R_callsOneOfMethods prog_9_method_9_code 3 (some .boolean), .instanceMethod y_R_callsOneOfMethods, .selects "PatchedMachine$Routine" y_R_callsOneOfMethods y_R_callsOneOfMethods]
set_option maxRecDepth 100000 in
theorem u_P_restrict : ∀ w ∈ t_P_restrict, w ∈ am_tb := am_subI [587, 590, 106, 589, 36, 213, 216, 218, 220, 222, 224, 214, 208, 212, 595, 598, 108, 597, 38, 599, 602, 601, 39] (by decide +kernel) (by decide +kernel)
set_option maxRecDepth 100000 in
theorem s_P_restrict (l : Launch) : am_Sd l am_cl y_P_restrict (am_ws y_P_restrict prog_8_method_9_code 5 none) 2 45 f_P_restrict :=
  am_meth (by decide +kernel) (Or.inr (Or.inr (Or.inl ⟨rfl, rfl⟩))) rfl (by decide) am_htc g_P_restrict (am_ctx (cb := cb_P_restrict) t_P_restrict [(52, .invokevirtual 52), (56, .invokevirtual 56), (60, .invokevirtual 60)] "PatchedMachine" false [30] [] u_P_restrict rfl (by decide +kernel) (fun h => by cases h)
    (List.forall_mem_cons.mpr ⟨am_KV (na := 1) u_P_restrict (s_P_methodsCalledOtherwise l) rfl (by decide +kernel) (by decide +kernel), (List.forall_mem_cons.mpr ⟨am_KVN (host := "PatchedMachine") (na := 1) u_P_restrict (s_R_usesOneOfClasses l) rfl (by decide +kernel) (by decide +kernel), (List.forall_mem_cons.mpr ⟨am_KVN (host := "PatchedMachine") (na := 1) u_P_restrict (s_R_callsOneOfMethods l) rfl (by decide +kernel) (by decide +kernel), (fun _ h => absurd h List.not_mem_nil)⟩)⟩)⟩) (fun x t h => by cases h) (by decide +kernel))
def t_Q_add : List Jvm.Cond := [.methodLink "PatchedMachine$PatchLine" 25 y_Q_isFull, .code y_Q_isFull prog_6_method_5_code 1 (some .boolean), .initialized "PatchedMachine$PatchLine", .instanceMethod y_Q_isFull, .selects "PatchedMachine$PatchLine" y_Q_isFull y_Q_isFull, .fieldLink "PatchedMachine$PatchLine" 21 "PatchedMachine$PatchLine" "length" "I", .laysFinal "PatchedMachine$PatchLine" "PatchedMachine$PatchLine" "ring" "[LPatchedMachine$Program;", .lays "PatchedMachine$PatchLine" "PatchedMachine$PatchLine" "first" "I", .lays "PatchedMachine$PatchLine" "PatchedMachine$PatchLine" "length" "I", .methodLink "PatchedMachine$PatchLine" 29 y_Q_newest, .code y_Q_newest prog_6_method_4_code 1 (some (.object "PatchedMachine$Program")), .instanceMethod y_Q_newest, .selects "PatchedMachine$PatchLine" y_Q_newest y_Q_newest, .methodLinkNest "PatchedMachine$PatchLine" 33 y_P_copy "PatchedMachine", .code y_P_copy prog_8_method_7_code 3 none, .initialized "PatchedMachine$Program", .instanceMethod y_P_copy, .selects "PatchedMachine$Program" y_P_copy y_P_copy]
set_option maxRecDepth 100000 in
theorem u_Q_add : ∀ w ∈ t_Q_add, w ∈ am_tb := am_subI [607, 517, 109, 516, 18, 238, 240, 242, 244, 608, 433, 432, 5, 609, 497, 106, 496, 15] (by decide +kernel) (by decide +kernel)
set_option maxRecDepth 100000 in
theorem s_Q_add (l : Launch) : am_Sd l am_cl y_Q_add (am_ws y_Q_add prog_6_method_6_code 2 none) 3 69 f_Q_add :=
  am_meth (by decide +kernel) (Or.inr (Or.inr (Or.inl ⟨rfl, rfl⟩))) rfl (by decide) am_htc g_Q_add (am_ctx (cb := cb_Q_add) t_Q_add [(25, .invokevirtual 25), (29, .invokevirtual 29), (33, .invokevirtual 33)] "PatchedMachine" false [21] [] u_Q_add rfl (by decide +kernel) (fun h => by cases h)
    (List.forall_mem_cons.mpr ⟨am_KV (na := 0) u_Q_add (s_Q_isFull l) rfl (by decide +kernel) (by decide +kernel), (List.forall_mem_cons.mpr ⟨am_KV (na := 0) u_Q_add (s_Q_newest l) rfl (by decide +kernel) (by decide +kernel), (List.forall_mem_cons.mpr ⟨am_KVN (host := "PatchedMachine") (na := 1) u_Q_add (s_P_copy l) rfl (by decide +kernel) (by decide +kernel), (fun _ h => absurd h List.not_mem_nil)⟩)⟩)⟩) (fun x t h => by cases h) (by decide +kernel))
def t_Q_firstWaiting : List Jvm.Cond := [.fieldLink "PatchedMachine$PatchLine" 13 "PatchedMachine$PatchLine" "ring" "[LPatchedMachine$Program;", .laysFinal "PatchedMachine$PatchLine" "PatchedMachine$PatchLine" "ring" "[LPatchedMachine$Program;", .lays "PatchedMachine$PatchLine" "PatchedMachine$PatchLine" "first" "I", .lays "PatchedMachine$PatchLine" "PatchedMachine$PatchLine" "length" "I", .fieldLink "PatchedMachine$PatchLine" 17 "PatchedMachine$PatchLine" "first" "I"]
set_option maxRecDepth 100000 in
theorem u_Q_firstWaiting : ∀ w ∈ t_Q_firstWaiting, w ∈ am_tb := am_subI [236, 240, 242, 244, 237] (by decide +kernel) (by decide +kernel)
set_option maxRecDepth 100000 in
theorem s_Q_firstWaiting (l : Launch) : am_Sd l am_cl y_Q_firstWaiting (am_ws y_Q_firstWaiting prog_6_method_3_code 1 (some (.object "PatchedMachine$Program"))) 0 0 f_Q_firstWaiting :=
  am_meth (by decide +kernel) (Or.inr (Or.inr (Or.inr ⟨rfl, _, rfl⟩))) rfl (by decide) am_htc g_Q_firstWaiting (am_ctx (cb := cb_Q_firstWaiting) t_Q_firstWaiting [] "PatchedMachine" false [] [] u_Q_firstWaiting rfl (by decide +kernel) (fun h => by cases h)
    (fun _ h => absurd h List.not_mem_nil) (fun x t h => by cases h) (by decide +kernel))
def t_U_hasFrameOfOneOf : List Jvm.Cond := [.fieldLink "PatchedMachine$Runner" 31 "PatchedMachine$Runner" "depth" "I", .laysFinal "PatchedMachine$Runner" "PatchedMachine$Runner" "frames" "[LPatchedMachine$Frame;", .laysFinal "PatchedMachine$Runner" "PatchedMachine$Runner" "heap" "LPatchedMachine$Heap;", .laysFinal "PatchedMachine$Runner" "PatchedMachine$Runner" "printer" "LPatchedMachine$Printer;", .lays "PatchedMachine$Runner" "PatchedMachine$Runner" "depth" "I", .lays "PatchedMachine$Runner" "PatchedMachine$Runner" "status" "I", .lays "PatchedMachine$Runner" "PatchedMachine$Runner" "result" "I", .fieldLink "PatchedMachine$Runner" 11 "PatchedMachine$Runner" "frames" "[LPatchedMachine$Frame;", .fieldLinkNest "PatchedMachine$Runner" 46 "PatchedMachine$Frame" "method" "I" "PatchedMachine", .laysFinal "PatchedMachine$Frame" "PatchedMachine$Frame" "locals" "[I", .laysFinal "PatchedMachine$Frame" "PatchedMachine$Frame" "stack" "[I", .laysFinal "PatchedMachine$Frame" "PatchedMachine$Frame" "stackTypes" "[I", .lays "PatchedMachine$Frame" "PatchedMachine$Frame" "height" "I", .lays "PatchedMachine$Frame" "PatchedMachine$Frame" "method" "I", .lays "PatchedMachine$Frame" "PatchedMachine$Frame" "place" "I"]
set_option maxRecDepth 100000 in
theorem u_U_hasFrameOfOneOf : ∀ w ∈ t_U_hasFrameOfOneOf, w ∈ am_tb := am_subI [355, 361, 363, 365, 367, 369, 371, 349, 331, 336, 338, 340, 342, 344, 346] (by decide +kernel) (by decide +kernel)
set_option maxRecDepth 100000 in
theorem s_U_hasFrameOfOneOf (l : Launch) : am_Sd l am_cl y_U_hasFrameOfOneOf (am_ws y_U_hasFrameOfOneOf prog_10_method_5_code 3 (some .boolean)) 0 0 f_U_hasFrameOfOneOf :=
  am_meth (by decide +kernel) (Or.inr (Or.inl ⟨rfl, rfl⟩)) rfl (by decide) am_htc g_U_hasFrameOfOneOf (am_ctx (cb := cb_U_hasFrameOfOneOf) t_U_hasFrameOfOneOf [] "PatchedMachine" false [] [] u_U_hasFrameOfOneOf rfl (by decide +kernel) (fun h => by cases h)
    (fun _ h => absurd h List.not_mem_nil) (fun x t h => by cases h) (by decide +kernel))
def t_Q_present : List Jvm.Cond := [.fieldLink "PatchedMachine$PatchLine" 13 "PatchedMachine$PatchLine" "ring" "[LPatchedMachine$Program;", .laysFinal "PatchedMachine$PatchLine" "PatchedMachine$PatchLine" "ring" "[LPatchedMachine$Program;", .lays "PatchedMachine$PatchLine" "PatchedMachine$PatchLine" "first" "I", .lays "PatchedMachine$PatchLine" "PatchedMachine$PatchLine" "length" "I", .fieldLink "PatchedMachine$PatchLine" 17 "PatchedMachine$PatchLine" "first" "I"]
set_option maxRecDepth 100000 in
theorem u_Q_present : ∀ w ∈ t_Q_present, w ∈ am_tb := am_subI [236, 240, 242, 244, 237] (by decide +kernel) (by decide +kernel)
set_option maxRecDepth 100000 in
theorem s_Q_present (l : Launch) : am_Sd l am_cl y_Q_present (am_ws y_Q_present prog_6_method_2_code 1 (some (.object "PatchedMachine$Program"))) 0 0 f_Q_present :=
  am_meth (by decide +kernel) (Or.inr (Or.inr (Or.inr ⟨rfl, _, rfl⟩))) rfl (by decide) am_htc g_Q_present (am_ctx (cb := cb_Q_present) t_Q_present [] "PatchedMachine" false [] [] u_Q_present rfl (by decide +kernel) (fun h => by cases h)
    (fun _ h => absurd h List.not_mem_nil) (fun x t h => by cases h) (by decide +kernel))
def t_H_beginCollection : List Jvm.Cond := [.fieldLink "PatchedMachine$Heap" 30 "PatchedMachine$Heap" "reachedCount" "I", .laysFinal "PatchedMachine$Heap" "PatchedMachine$Heap" "classes" "[I", .laysFinal "PatchedMachine$Heap" "PatchedMachine$Heap" "values" "[[I", .laysFinal "PatchedMachine$Heap" "PatchedMachine$Heap" "newValues" "[I", .laysFinal "PatchedMachine$Heap" "PatchedMachine$Heap" "isReached" "[Z", .laysFinal "PatchedMachine$Heap" "PatchedMachine$Heap" "reachedRows" "[I", .lays "PatchedMachine$Heap" "PatchedMachine$Heap" "reachedCount" "I", .lays "PatchedMachine$Heap" "PatchedMachine$Heap" "count" "I", .fieldLink "PatchedMachine$Heap" 23 "PatchedMachine$Heap" "isReached" "[Z"]
set_option maxRecDepth 100000 in
theorem u_H_beginCollection : ∀ w ∈ t_H_beginCollection, w ∈ am_tb := am_subI [284, 287, 289, 291, 293, 295, 297, 299, 282] (by decide +kernel) (by decide +kernel)
set_option maxRecDepth 100000 in
theorem s_H_beginCollection (l : Launch) : am_Sd l am_cl y_H_beginCollection (am_ws y_H_beginCollection prog_4_method_9_code 2 none) 0 0 f_H_beginCollection :=
  am_meth (by decide +kernel) (Or.inr (Or.inr (Or.inl ⟨rfl, rfl⟩))) rfl (by decide) am_htc g_H_beginCollection (am_ctx (cb := cb_H_beginCollection) t_H_beginCollection [] "PatchedMachine" false [30] [] u_H_beginCollection rfl (by decide +kernel) (fun h => by cases h)
    (fun _ h => absurd h List.not_mem_nil) (fun x t h => by cases h) (by decide +kernel))
def t_H_reach : List Jvm.Cond := [.fieldLink "PatchedMachine$Heap" 23 "PatchedMachine$Heap" "isReached" "[Z", .laysFinal "PatchedMachine$Heap" "PatchedMachine$Heap" "classes" "[I", .laysFinal "PatchedMachine$Heap" "PatchedMachine$Heap" "values" "[[I", .laysFinal "PatchedMachine$Heap" "PatchedMachine$Heap" "newValues" "[I", .laysFinal "PatchedMachine$Heap" "PatchedMachine$Heap" "isReached" "[Z", .laysFinal "PatchedMachine$Heap" "PatchedMachine$Heap" "reachedRows" "[I", .lays "PatchedMachine$Heap" "PatchedMachine$Heap" "reachedCount" "I", .lays "PatchedMachine$Heap" "PatchedMachine$Heap" "count" "I", .fieldLink "PatchedMachine$Heap" 27 "PatchedMachine$Heap" "reachedRows" "[I", .fieldLink "PatchedMachine$Heap" 30 "PatchedMachine$Heap" "reachedCount" "I"]
set_option maxRecDepth 100000 in
theorem u_H_reach : ∀ w ∈ t_H_reach, w ∈ am_tb := am_subI [282, 287, 289, 291, 293, 295, 297, 299, 283, 284] (by decide +kernel) (by decide +kernel)
set_option maxRecDepth 100000 in
theorem s_H_reach (l : Launch) : am_Sd l am_cl y_H_reach (am_ws y_H_reach prog_4_method_10_code 3 none) 0 0 f_H_reach :=
  am_meth (by decide +kernel) (Or.inr (Or.inr (Or.inl ⟨rfl, rfl⟩))) rfl (by decide) am_htc g_H_reach (am_ctx (cb := cb_H_reach) t_H_reach [] "PatchedMachine" false [30] [] u_H_reach rfl (by decide +kernel) (fun h => by cases h)
    (fun _ h => absurd h List.not_mem_nil) (fun x t h => by cases h) (by decide +kernel))
def t_U_reachFrom : List Jvm.Cond := [.fieldLink "PatchedMachine$Runner" 20 "PatchedMachine$Runner" "heap" "LPatchedMachine$Heap;", .laysFinal "PatchedMachine$Runner" "PatchedMachine$Runner" "frames" "[LPatchedMachine$Frame;", .laysFinal "PatchedMachine$Runner" "PatchedMachine$Runner" "heap" "LPatchedMachine$Heap;", .laysFinal "PatchedMachine$Runner" "PatchedMachine$Runner" "printer" "LPatchedMachine$Printer;", .lays "PatchedMachine$Runner" "PatchedMachine$Runner" "depth" "I", .lays "PatchedMachine$Runner" "PatchedMachine$Runner" "status" "I", .lays "PatchedMachine$Runner" "PatchedMachine$Runner" "result" "I", .fieldLinkNest "PatchedMachine$Runner" 90 "PatchedMachine$Frame" "locals" "[I" "PatchedMachine", .laysFinal "PatchedMachine$Frame" "PatchedMachine$Frame" "locals" "[I", .laysFinal "PatchedMachine$Frame" "PatchedMachine$Frame" "stack" "[I", .laysFinal "PatchedMachine$Frame" "PatchedMachine$Frame" "stackTypes" "[I", .lays "PatchedMachine$Frame" "PatchedMachine$Frame" "height" "I", .lays "PatchedMachine$Frame" "PatchedMachine$Frame" "method" "I", .lays "PatchedMachine$Frame" "PatchedMachine$Frame" "place" "I", .fieldLinkNest "PatchedMachine$Runner" 93 "PatchedMachine$Routine" "locals" "[I" "PatchedMachine", .laysFinal "PatchedMachine$Routine" "PatchedMachine$Routine" "locals" "[I", .laysFinal "PatchedMachine$Routine" "PatchedMachine$Routine" "ops" "[I", .laysFinal "PatchedMachine$Routine" "PatchedMachine$Routine" "xs" "[I", .laysFinal "PatchedMachine$Routine" "PatchedMachine$Routine" "ys" "[I", .lays "PatchedMachine$Routine" "PatchedMachine$Routine" "parameters" "I", .lays "PatchedMachine$Routine" "PatchedMachine$Routine" "result" "I", .lays "PatchedMachine$Routine" "PatchedMachine$Routine" "length" "I", .methodLinkNest "PatchedMachine$Runner" 175 y_H_reach "PatchedMachine", .code y_H_reach prog_4_method_10_code 3 none, .initialized "PatchedMachine$Heap", .instanceMethod y_H_reach, .selects "PatchedMachine$Heap" y_H_reach y_H_reach, .fieldLinkNest "PatchedMachine$Runner" 178 "PatchedMachine$Frame" "height" "I" "PatchedMachine", .fieldLinkNest "PatchedMachine$Runner" 181 "PatchedMachine$Frame" "stack" "[I" "PatchedMachine", .fieldLinkNest "PatchedMachine$Runner" 184 "PatchedMachine$Frame" "stackTypes" "[I" "PatchedMachine"]
set_option maxRecDepth 100000 in
theorem u_U_reachFrom : ∀ w ∈ t_U_reachFrom, w ∈ am_tb := am_subI [351, 361, 363, 365, 367, 369, 371, 323, 336, 338, 340, 342, 344, 346, 168, 188, 190, 192, 194, 196, 198, 200, 638, 641, 112, 640, 48, 329, 325, 327] (by decide +kernel) (by decide +kernel)
set_option maxRecDepth 100000 in
theorem s_U_reachFrom (l : Launch) : am_Sd l am_cl y_U_reachFrom (am_ws y_U_reachFrom prog_10_method_17_code 4 none) 1 22 f_U_reachFrom :=
  am_meth (by decide +kernel) (Or.inr (Or.inr (Or.inl ⟨rfl, rfl⟩))) rfl (by decide) am_htc g_U_reachFrom (am_ctx (cb := cb_U_reachFrom) t_U_reachFrom [(175, .invokevirtual 175)] "PatchedMachine" false [] [] u_U_reachFrom rfl (by decide +kernel) (fun h => by cases h)
    (List.forall_mem_cons.mpr ⟨am_KVN (host := "PatchedMachine") (na := 2) u_U_reachFrom (s_H_reach l) rfl (by decide +kernel) (by decide +kernel), (fun _ h => absurd h List.not_mem_nil)⟩) (fun x t h => by cases h) (by decide +kernel))
def t_H_reachOverFields : List Jvm.Cond := [.fieldLink "PatchedMachine$Heap" 30 "PatchedMachine$Heap" "reachedCount" "I", .laysFinal "PatchedMachine$Heap" "PatchedMachine$Heap" "classes" "[I", .laysFinal "PatchedMachine$Heap" "PatchedMachine$Heap" "values" "[[I", .laysFinal "PatchedMachine$Heap" "PatchedMachine$Heap" "newValues" "[I", .laysFinal "PatchedMachine$Heap" "PatchedMachine$Heap" "isReached" "[Z", .laysFinal "PatchedMachine$Heap" "PatchedMachine$Heap" "reachedRows" "[I", .lays "PatchedMachine$Heap" "PatchedMachine$Heap" "reachedCount" "I", .lays "PatchedMachine$Heap" "PatchedMachine$Heap" "count" "I", .fieldLink "PatchedMachine$Heap" 27 "PatchedMachine$Heap" "reachedRows" "[I", .fieldLinkNest "PatchedMachine$Heap" 48 "PatchedMachine$Program" "layouts" "[LPatchedMachine$Layout;" "PatchedMachine", .laysFinal "PatchedMachine$Program" "PatchedMachine$Program" "layouts" "[LPatchedMachine$Layout;", .laysFinal "PatchedMachine$Program" "PatchedMachine$Program" "routines" "[LPatchedMachine$Routine;", .lays "PatchedMachine$Program" "PatchedMachine$Program" "touchedClasses" "I", .lays "PatchedMachine$Program" "PatchedMachine$Program" "touchedMethods" "I", .lays "PatchedMachine$Program" "PatchedMachine$Program" "restrictedMethods" "I", .fieldLink "PatchedMachine$Heap" 9 "PatchedMachine$Heap" "classes" "[I", .fieldLinkNest "PatchedMachine$Heap" 54 "PatchedMachine$Layout" "size" "I" "PatchedMachine", .laysFinal "PatchedMachine$Layout" "PatchedMachine$Layout" "names" "[I", .laysFinal "PatchedMachine$Layout" "PatchedMachine$Layout" "types" "[I", .laysFinal "PatchedMachine$Layout" "PatchedMachine$Layout" "sources" "[I", .lays "PatchedMachine$Layout" "PatchedMachine$Layout" "size" "I", .fieldLink "PatchedMachine$Heap" 17 "PatchedMachine$Heap" "values" "[[I", .fieldLinkNest "PatchedMachine$Heap" 59 "PatchedMachine$Layout" "types" "[I" "PatchedMachine", .methodLink "PatchedMachine$Heap" 62 y_H_reach, .code y_H_reach prog_4_method_10_code 3 none, .initialized "PatchedMachine$Heap", .instanceMethod y_H_reach, .selects "PatchedMachine$Heap" y_H_reach y_H_reach]
set_option maxRecDepth 100000 in
theorem u_H_reachOverFields : ∀ w ∈ t_H_reachOverFields, w ∈ am_tb := am_subI [284, 287, 289, 291, 293, 295, 297, 299, 283, 206, 216, 218, 220, 222, 224, 279, 149, 151, 153, 155, 157, 280, 144, 646, 641, 112, 640, 48] (by decide +kernel) (by decide +kernel)
set_option maxRecDepth 100000 in
theorem s_H_reachOverFields (l : Launch) : am_Sd l am_cl y_H_reachOverFields (am_ws y_H_reachOverFields prog_4_method_11_code 6 none) 1 22 f_H_reachOverFields :=
  am_meth (by decide +kernel) (Or.inr (Or.inr (Or.inl ⟨rfl, rfl⟩))) rfl (by decide) am_htc g_H_reachOverFields (am_ctx (cb := cb_H_reachOverFields) t_H_reachOverFields [(62, .invokevirtual 62)] "PatchedMachine" false [] [] u_H_reachOverFields rfl (by decide +kernel) (fun h => by cases h)
    (List.forall_mem_cons.mpr ⟨am_KV (na := 2) u_H_reachOverFields (s_H_reach l) rfl (by decide +kernel) (by decide +kernel), (fun _ h => absurd h List.not_mem_nil)⟩) (fun x t h => by cases h) (by decide +kernel))
def t_H_takeAwayTheRest : List Jvm.Cond := [.fieldLink "PatchedMachine$Heap" 23 "PatchedMachine$Heap" "isReached" "[Z", .laysFinal "PatchedMachine$Heap" "PatchedMachine$Heap" "classes" "[I", .laysFinal "PatchedMachine$Heap" "PatchedMachine$Heap" "values" "[[I", .laysFinal "PatchedMachine$Heap" "PatchedMachine$Heap" "newValues" "[I", .laysFinal "PatchedMachine$Heap" "PatchedMachine$Heap" "isReached" "[Z", .laysFinal "PatchedMachine$Heap" "PatchedMachine$Heap" "reachedRows" "[I", .lays "PatchedMachine$Heap" "PatchedMachine$Heap" "reachedCount" "I", .lays "PatchedMachine$Heap" "PatchedMachine$Heap" "count" "I", .fieldLink "PatchedMachine$Heap" 9 "PatchedMachine$Heap" "classes" "[I", .fieldLink "PatchedMachine$Heap" 30 "PatchedMachine$Heap" "reachedCount" "I", .fieldLink "PatchedMachine$Heap" 34 "PatchedMachine$Heap" "count" "I"]
set_option maxRecDepth 100000 in
theorem u_H_takeAwayTheRest : ∀ w ∈ t_H_takeAwayTheRest, w ∈ am_tb := am_subI [282, 287, 289, 291, 293, 295, 297, 299, 279, 284, 285] (by decide +kernel) (by decide +kernel)
set_option maxRecDepth 100000 in
theorem s_H_takeAwayTheRest (l : Launch) : am_Sd l am_cl y_H_takeAwayTheRest (am_ws y_H_takeAwayTheRest prog_4_method_12_code 2 none) 0 0 f_H_takeAwayTheRest :=
  am_meth (by decide +kernel) (Or.inr (Or.inr (Or.inl ⟨rfl, rfl⟩))) rfl (by decide) am_htc g_H_takeAwayTheRest (am_ctx (cb := cb_H_takeAwayTheRest) t_H_takeAwayTheRest [] "PatchedMachine" false [34] [] u_H_takeAwayTheRest rfl (by decide +kernel) (fun h => by cases h)
    (fun _ h => absurd h List.not_mem_nil) (fun x t h => by cases h) (by decide +kernel))
def t_U_collect : List Jvm.Cond := [.fieldLink "PatchedMachine$Runner" 20 "PatchedMachine$Runner" "heap" "LPatchedMachine$Heap;", .laysFinal "PatchedMachine$Runner" "PatchedMachine$Runner" "frames" "[LPatchedMachine$Frame;", .laysFinal "PatchedMachine$Runner" "PatchedMachine$Runner" "heap" "LPatchedMachine$Heap;", .laysFinal "PatchedMachine$Runner" "PatchedMachine$Runner" "printer" "LPatchedMachine$Printer;", .lays "PatchedMachine$Runner" "PatchedMachine$Runner" "depth" "I", .lays "PatchedMachine$Runner" "PatchedMachine$Runner" "status" "I", .lays "PatchedMachine$Runner" "PatchedMachine$Runner" "result" "I", .methodLinkNest "PatchedMachine$Runner" 163 y_H_beginCollection "PatchedMachine", .code y_H_beginCollection prog_4_method_9_code 2 none, .initialized "PatchedMachine$Heap", .instanceMethod y_H_beginCollection, .selects "PatchedMachine$Heap" y_H_beginCollection y_H_beginCollection, .fieldLink "PatchedMachine$Runner" 31 "PatchedMachine$Runner" "depth" "I", .fieldLink "PatchedMachine$Runner" 11 "PatchedMachine$Runner" "frames" "[LPatchedMachine$Frame;", .fieldLinkNest "PatchedMachine$Runner" 49 "PatchedMachine$Program" "routines" "[LPatchedMachine$Routine;" "PatchedMachine", .laysFinal "PatchedMachine$Program" "PatchedMachine$Program" "layouts" "[LPatchedMachine$Layout;", .laysFinal "PatchedMachine$Program" "PatchedMachine$Program" "routines" "[LPatchedMachine$Routine;", .lays "PatchedMachine$Program" "PatchedMachine$Program" "touchedClasses" "I", .lays "PatchedMachine$Program" "PatchedMachine$Program" "touchedMethods" "I", .lays "PatchedMachine$Program" "PatchedMachine$Program" "restrictedMethods" "I", .fieldLinkNest "PatchedMachine$Runner" 46 "PatchedMachine$Frame" "method" "I" "PatchedMachine", .laysFinal "PatchedMachine$Frame" "PatchedMachine$Frame" "locals" "[I", .laysFinal "PatchedMachine$Frame" "PatchedMachine$Frame" "stack" "[I", .laysFinal "PatchedMachine$Frame" "PatchedMachine$Frame" "stackTypes" "[I", .lays "PatchedMachine$Frame" "PatchedMachine$Frame" "height" "I", .lays "PatchedMachine$Frame" "PatchedMachine$Frame" "method" "I", .lays "PatchedMachine$Frame" "PatchedMachine$Frame" "place" "I", .methodLink "PatchedMachine$Runner" 166 y_U_reachFrom, .code y_U_reachFrom prog_10_method_17_code 4 none, .initialized "PatchedMachine$Runner", .instanceMethod y_U_reachFrom, .selects "PatchedMachine$Runner" y_U_reachFrom y_U_reachFrom, .methodLinkNest "PatchedMachine$Runner" 169 y_H_reachOverFields "PatchedMachine", .code y_H_reachOverFields prog_4_method_11_code 6 none, .instanceMethod y_H_reachOverFields, .selects "PatchedMachine$Heap" y_H_reachOverFields y_H_reachOverFields, .methodLinkNest "PatchedMachine$Runner" 172 y_H_takeAwayTheRest "PatchedMachine", .code y_H_takeAwayTheRest prog_4_method_12_code 2 none, .instanceMethod y_H_takeAwayTheRest, .selects "PatchedMachine$Heap" y_H_takeAwayTheRest y_H_takeAwayTheRest]
set_option maxRecDepth 100000 in
theorem u_U_collect : ∀ w ∈ t_U_collect, w ∈ am_tb := am_subI [351, 361, 363, 365, 367, 369, 371, 630, 633, 112, 632, 46, 355, 349, 211, 216, 218, 220, 222, 224, 331, 336, 338, 340, 342, 344, 346, 634, 637, 111, 636, 47, 642, 645, 644, 49, 647, 650, 649, 50] (by decide +kernel) (by decide +kernel)
set_option maxRecDepth 100000 in
theorem s_U_collect (l : Launch) : am_Sd l am_cl y_U_collect (am_ws y_U_collect prog_10_method_16_code 3 none) 2 47 f_U_collect :=
  am_meth (by decide +kernel) (Or.inr (Or.inr (Or.inl ⟨rfl, rfl⟩))) rfl (by decide) am_htc g_U_collect (am_ctx (cb := cb_U_collect) t_U_collect [(163, .invokevirtual 163), (166, .invokevirtual 166), (169, .invokevirtual 169), (172, .invokevirtual 172)] "PatchedMachine" false [] [] u_U_collect rfl (by decide +kernel) (fun h => by cases h)
    (List.forall_mem_cons.mpr ⟨am_KVN (host := "PatchedMachine") (na := 0) u_U_collect (s_H_beginCollection l) rfl (by decide +kernel) (by decide +kernel), (List.forall_mem_cons.mpr ⟨am_KV (na := 2) u_U_collect (s_U_reachFrom l) rfl (by decide +kernel) (by decide +kernel), (List.forall_mem_cons.mpr ⟨am_KVN (host := "PatchedMachine") (na := 1) u_U_collect (s_H_reachOverFields l) rfl (by decide +kernel) (by decide +kernel), (List.forall_mem_cons.mpr ⟨am_KVN (host := "PatchedMachine") (na := 0) u_U_collect (s_H_takeAwayTheRest l) rfl (by decide +kernel) (by decide +kernel), (fun _ h => absurd h List.not_mem_nil)⟩)⟩)⟩)⟩) (fun x t h => by cases h) (by decide +kernel))
def t_H_clearValues : List Jvm.Cond := []
set_option maxRecDepth 100000 in
theorem u_H_clearValues : ∀ w ∈ t_H_clearValues, w ∈ am_tb := am_subI [] (by decide +kernel) (by decide +kernel)
set_option maxRecDepth 100000 in
theorem s_H_clearValues (l : Launch) : am_Sd l am_cl y_H_clearValues (am_ws y_H_clearValues prog_4_method_8_code 2 none) 0 0 f_H_clearValues :=
  am_meth (by decide +kernel) (Or.inr (Or.inr (Or.inl ⟨rfl, rfl⟩))) rfl (by decide) am_htc g_H_clearValues (am_ctx (cb := cb_H_clearValues) t_H_clearValues [] "PatchedMachine" false [] [] u_H_clearValues rfl (by decide +kernel) (fun h => by cases h)
    (fun _ h => absurd h List.not_mem_nil) (fun x t h => by cases h) (by decide +kernel))
end
section
/-! printed by gen.py: contracts -/
def t_H_moveValues : List Jvm.Cond := [.fieldLink "PatchedMachine$Heap" 20 "PatchedMachine$Heap" "newValues" "[I", .laysFinal "PatchedMachine$Heap" "PatchedMachine$Heap" "classes" "[I", .laysFinal "PatchedMachine$Heap" "PatchedMachine$Heap" "values" "[[I", .laysFinal "PatchedMachine$Heap" "PatchedMachine$Heap" "newValues" "[I", .laysFinal "PatchedMachine$Heap" "PatchedMachine$Heap" "isReached" "[Z", .laysFinal "PatchedMachine$Heap" "PatchedMachine$Heap" "reachedRows" "[I", .lays "PatchedMachine$Heap" "PatchedMachine$Heap" "reachedCount" "I", .lays "PatchedMachine$Heap" "PatchedMachine$Heap" "count" "I", .methodLink "PatchedMachine$Heap" 37 y_H_clearValues, .code y_H_clearValues prog_4_method_8_code 2 none, .initialized "PatchedMachine$Heap", .static y_H_clearValues, .fieldLinkNest "PatchedMachine$Heap" 54 "PatchedMachine$Layout" "size" "I" "PatchedMachine", .laysFinal "PatchedMachine$Layout" "PatchedMachine$Layout" "names" "[I", .laysFinal "PatchedMachine$Layout" "PatchedMachine$Layout" "types" "[I", .laysFinal "PatchedMachine$Layout" "PatchedMachine$Layout" "sources" "[I", .lays "PatchedMachine$Layout" "PatchedMachine$Layout" "size" "I", .fieldLinkNest "PatchedMachine$Heap" 73 "PatchedMachine$Layout" "sources" "[I" "PatchedMachine", .methodLinkNest "PatchedMachine$Heap" 76 y_L_find "PatchedMachine", .code y_L_find prog_5_method_5_code 3 (some .int), .initialized "PatchedMachine$Layout", .instanceMethod y_L_find, .selects "PatchedMachine$Layout" y_L_find y_L_find, .methodLink "PatchedMachine$Heap" 80 arraycopyName, .native arraycopyName, .static arraycopyName, .initialized "java/lang/System"]
set_option maxRecDepth 100000 in
theorem u_H_moveValues : ∀ w ∈ t_H_moveValues, w ∈ am_tb := am_subI [281, 287, 289, 291, 293, 295, 297, 299, 660, 662, 112, 661, 149, 151, 153, 155, 157, 147, 663, 429, 107, 428, 4, 664, 504, 503, 116] (by decide +kernel) (by decide +kernel)
set_option maxRecDepth 100000 in
theorem s_H_moveValues (l : Launch) : am_Sd l am_cl y_H_moveValues (am_ws y_H_moveValues prog_4_method_14_code 6 none) 1 26 f_H_moveValues :=
  am_meth (by decide +kernel) (Or.inr (Or.inr (Or.inl ⟨rfl, rfl⟩))) rfl (by decide) am_htc g_H_moveValues (am_ctx (cb := cb_H_moveValues) t_H_moveValues [(37, .invokestatic 37), (76, .invokevirtual 76), (80, .invokestatic 80)] "PatchedMachine" false [] [] u_H_moveValues rfl (by decide +kernel) (fun h => by cases h)
    (List.forall_mem_cons.mpr ⟨am_KS (na := 1) u_H_moveValues (s_H_clearValues l) (by decide +kernel) (by decide +kernel), (List.forall_mem_cons.mpr ⟨am_KVN (host := "PatchedMachine") (na := 1) u_H_moveValues (s_L_find l) rfl (by decide +kernel) (by decide +kernel), (List.forall_mem_cons.mpr ⟨am_KC u_H_moveValues (by decide +kernel) (by decide +kernel), (fun _ h => absurd h List.not_mem_nil)⟩)⟩)⟩) (fun x t h => by cases h) (by decide +kernel))
def t_H_moveObjects : List Jvm.Cond := [.fieldLink "PatchedMachine$Heap" 9 "PatchedMachine$Heap" "classes" "[I", .laysFinal "PatchedMachine$Heap" "PatchedMachine$Heap" "classes" "[I", .laysFinal "PatchedMachine$Heap" "PatchedMachine$Heap" "values" "[[I", .laysFinal "PatchedMachine$Heap" "PatchedMachine$Heap" "newValues" "[I", .laysFinal "PatchedMachine$Heap" "PatchedMachine$Heap" "isReached" "[Z", .laysFinal "PatchedMachine$Heap" "PatchedMachine$Heap" "reachedRows" "[I", .lays "PatchedMachine$Heap" "PatchedMachine$Heap" "reachedCount" "I", .lays "PatchedMachine$Heap" "PatchedMachine$Heap" "count" "I", .methodLinkNest "PatchedMachine$Heap" 66 y_P_touchesClass "PatchedMachine", .code y_P_touchesClass prog_8_method_4_code 2 (some .boolean), .initialized "PatchedMachine$Program", .instanceMethod y_P_touchesClass, .selects "PatchedMachine$Program" y_P_touchesClass y_P_touchesClass, .fieldLink "PatchedMachine$Heap" 17 "PatchedMachine$Heap" "values" "[[I", .fieldLinkNest "PatchedMachine$Heap" 48 "PatchedMachine$Program" "layouts" "[LPatchedMachine$Layout;" "PatchedMachine", .laysFinal "PatchedMachine$Program" "PatchedMachine$Program" "layouts" "[LPatchedMachine$Layout;", .laysFinal "PatchedMachine$Program" "PatchedMachine$Program" "routines" "[LPatchedMachine$Routine;", .lays "PatchedMachine$Program" "PatchedMachine$Program" "touchedClasses" "I", .lays "PatchedMachine$Program" "PatchedMachine$Program" "touchedMethods" "I", .lays "PatchedMachine$Program" "PatchedMachine$Program" "restrictedMethods" "I", .methodLink "PatchedMachine$Heap" 69 y_H_moveValues, .code y_H_moveValues prog_4_method_14_code 6 none, .initialized "PatchedMachine$Heap", .instanceMethod y_H_moveValues, .selects "PatchedMachine$Heap" y_H_moveValues y_H_moveValues]
set_option maxRecDepth 100000 in
theorem u_H_moveObjects : ∀ w ∈ t_H_moveObjects, w ∈ am_tb := am_subI [279, 287, 289, 291, 293, 295, 297, 299, 655, 415, 106, 414, 2, 280, 206, 216, 218, 220, 222, 224, 656, 659, 112, 658, 52] (by decide +kernel) (by decide +kernel)
set_option maxRecDepth 100000 in
theorem s_H_moveObjects (l : Launch) : am_Sd l am_cl y_H_moveObjects (am_ws y_H_moveObjects prog_4_method_13_code 6 (some .int)) 2 51 f_H_moveObjects :=
  am_meth (by decide +kernel) (Or.inl ⟨rfl, rfl⟩) rfl (by decide) am_htc g_H_moveObjects (am_ctx (cb := cb_H_moveObjects) t_H_moveObjects [(66, .invokevirtual 66), (69, .invokevirtual 69)] "PatchedMachine" false [] [] u_H_moveObjects rfl (by decide +kernel) (fun h => by cases h)
    (List.forall_mem_cons.mpr ⟨am_KVN (host := "PatchedMachine") (na := 1) u_H_moveObjects (s_P_touchesClass l) rfl (by decide +kernel) (by decide +kernel), (List.forall_mem_cons.mpr ⟨am_KV (na := 3) u_H_moveObjects (s_H_moveValues l) rfl (by decide +kernel) (by decide +kernel), (fun _ h => absurd h List.not_mem_nil)⟩)⟩) (fun x t h => by cases h) (by decide +kernel))
def t_Q_advance : List Jvm.Cond := [.fieldLink "PatchedMachine$PatchLine" 21 "PatchedMachine$PatchLine" "length" "I", .laysFinal "PatchedMachine$PatchLine" "PatchedMachine$PatchLine" "ring" "[LPatchedMachine$Program;", .lays "PatchedMachine$PatchLine" "PatchedMachine$PatchLine" "first" "I", .lays "PatchedMachine$PatchLine" "PatchedMachine$PatchLine" "length" "I", .fieldLink "PatchedMachine$PatchLine" 17 "PatchedMachine$PatchLine" "first" "I"]
set_option maxRecDepth 100000 in
theorem u_Q_advance : ∀ w ∈ t_Q_advance, w ∈ am_tb := am_subI [238, 240, 242, 244, 237] (by decide +kernel) (by decide +kernel)
set_option maxRecDepth 100000 in
theorem s_Q_advance (l : Launch) : am_Sd l am_cl y_Q_advance (am_ws y_Q_advance prog_6_method_7_code 1 none) 0 0 f_Q_advance :=
  am_meth (by decide +kernel) (Or.inr (Or.inr (Or.inl ⟨rfl, rfl⟩))) rfl (by decide) am_htc g_Q_advance (am_ctx (cb := cb_Q_advance) t_Q_advance [] "PatchedMachine" false [17, 21] [] u_Q_advance rfl (by decide +kernel) (fun h => by cases h)
    (fun _ h => absurd h List.not_mem_nil) (fun x t h => by cases h) (by decide +kernel))
def t_X_applyWhatCan : List Jvm.Cond := [.fieldLink "PatchedMachine" 19 "PatchedMachine" "line" "LPatchedMachine$PatchLine;", .laysFinal "PatchedMachine" "PatchedMachine" "draft" "LPatchedMachine$Program;", .laysFinal "PatchedMachine" "PatchedMachine" "line" "LPatchedMachine$PatchLine;", .laysFinal "PatchedMachine" "PatchedMachine" "checker" "LPatchedMachine$Checker;", .laysFinal "PatchedMachine" "PatchedMachine" "runner" "LPatchedMachine$Runner;", .lays "PatchedMachine" "PatchedMachine" "applied" "I", .lays "PatchedMachine" "PatchedMachine" "moved" "I", .fieldLinkNest "PatchedMachine" 131 "PatchedMachine$PatchLine" "length" "I" "PatchedMachine", .laysFinal "PatchedMachine$PatchLine" "PatchedMachine$PatchLine" "ring" "[LPatchedMachine$Program;", .lays "PatchedMachine$PatchLine" "PatchedMachine$PatchLine" "first" "I", .lays "PatchedMachine$PatchLine" "PatchedMachine$PatchLine" "length" "I", .fieldLink "PatchedMachine" 33 "PatchedMachine" "runner" "LPatchedMachine$Runner;", .methodLinkNest "PatchedMachine" 134 y_Q_firstWaiting "PatchedMachine", .code y_Q_firstWaiting prog_6_method_3_code 1 (some (.object "PatchedMachine$Program")), .initialized "PatchedMachine$PatchLine", .instanceMethod y_Q_firstWaiting, .selects "PatchedMachine$PatchLine" y_Q_firstWaiting y_Q_firstWaiting, .fieldLinkNest "PatchedMachine" 137 "PatchedMachine$Program" "restrictedMethods" "I" "PatchedMachine", .laysFinal "PatchedMachine$Program" "PatchedMachine$Program" "layouts" "[LPatchedMachine$Layout;", .laysFinal "PatchedMachine$Program" "PatchedMachine$Program" "routines" "[LPatchedMachine$Routine;", .lays "PatchedMachine$Program" "PatchedMachine$Program" "touchedClasses" "I", .lays "PatchedMachine$Program" "PatchedMachine$Program" "touchedMethods" "I", .lays "PatchedMachine$Program" "PatchedMachine$Program" "restrictedMethods" "I", .methodLinkNest "PatchedMachine" 209 y_U_hasFrameOfOneOf "PatchedMachine", .code y_U_hasFrameOfOneOf prog_10_method_5_code 3 (some .boolean), .initialized "PatchedMachine$Runner", .instanceMethod y_U_hasFrameOfOneOf, .selects "PatchedMachine$Runner" y_U_hasFrameOfOneOf y_U_hasFrameOfOneOf, .methodLinkNest "PatchedMachine" 143 y_Q_present "PatchedMachine", .code y_Q_present prog_6_method_2_code 1 (some (.object "PatchedMachine$Program")), .instanceMethod y_Q_present, .selects "PatchedMachine$PatchLine" y_Q_present y_Q_present, .methodLinkNest "PatchedMachine" 212 y_U_collect "PatchedMachine", .code y_U_collect prog_10_method_16_code 3 none, .instanceMethod y_U_collect, .selects "PatchedMachine$Runner" y_U_collect y_U_collect, .fieldLink "PatchedMachine" 41 "PatchedMachine" "moved" "I", .fieldLinkNest "PatchedMachine" 180 "PatchedMachine$Runner" "heap" "LPatchedMachine$Heap;" "PatchedMachine", .laysFinal "PatchedMachine$Runner" "PatchedMachine$Runner" "frames" "[LPatchedMachine$Frame;", .laysFinal "PatchedMachine$Runner" "PatchedMachine$Runner" "heap" "LPatchedMachine$Heap;", .laysFinal "PatchedMachine$Runner" "PatchedMachine$Runner" "printer" "LPatchedMachine$Printer;", .lays "PatchedMachine$Runner" "PatchedMachine$Runner" "depth" "I", .lays "PatchedMachine$Runner" "PatchedMachine$Runner" "status" "I", .lays "PatchedMachine$Runner" "PatchedMachine$Runner" "result" "I", .methodLinkNest "PatchedMachine" 215 y_H_moveObjects "PatchedMachine", .code y_H_moveObjects prog_4_method_13_code 6 (some .int), .initialized "PatchedMachine$Heap", .instanceMethod y_H_moveObjects, .selects "PatchedMachine$Heap" y_H_moveObjects y_H_moveObjects, .methodLinkNest "PatchedMachine" 219 y_Q_advance "PatchedMachine", .code y_Q_advance prog_6_method_7_code 1 none, .instanceMethod y_Q_advance, .selects "PatchedMachine$PatchLine" y_Q_advance y_Q_advance, .fieldLink "PatchedMachine" 37 "PatchedMachine" "applied" "I"]
set_option maxRecDepth 100000 in
theorem u_X_applyWhatCan : ∀ w ∈ t_X_applyWhatCan, w ∈ am_tb := am_subI [375, 380, 382, 384, 386, 388, 390, 239, 240, 242, 244, 377, 614, 617, 109, 616, 42, 215, 216, 218, 220, 222, 224, 618, 621, 111, 620, 43, 622, 625, 624, 44, 626, 629, 628, 45, 379, 352, 361, 363, 365, 367, 369, 371, 651, 654, 112, 653, 51, 665, 668, 667, 53, 378] (by decide +kernel) (by decide +kernel)
set_option maxRecDepth 100000 in
theorem s_X_applyWhatCan (l : Launch) : am_Sd l am_cl y_X_applyWhatCan (am_ws y_X_applyWhatCan prog_1_method_22_code 3 none) 3 76 f_X_applyWhatCan :=
  am_meth (by decide +kernel) (Or.inr (Or.inr (Or.inl ⟨rfl, rfl⟩))) rfl (by decide) am_htc g_X_applyWhatCan (am_ctx (cb := cb_X_applyWhatCan) t_X_applyWhatCan [(134, .invokevirtual 134), (209, .invokevirtual 209), (143, .invokevirtual 143), (212, .invokevirtual 212), (215, .invokevirtual 215), (219, .invokevirtual 219)] "PatchedMachine" false [41, 37] [] u_X_applyWhatCan rfl (by decide +kernel) (fun h => by cases h)
    (List.forall_mem_cons.mpr ⟨am_KVN (host := "PatchedMachine") (na := 0) u_X_applyWhatCan (s_Q_firstWaiting l) rfl (by decide +kernel) (by decide +kernel), (List.forall_mem_cons.mpr ⟨am_KVN (host := "PatchedMachine") (na := 1) u_X_applyWhatCan (s_U_hasFrameOfOneOf l) rfl (by decide +kernel) (by decide +kernel), (List.forall_mem_cons.mpr ⟨am_KVN (host := "PatchedMachine") (na := 0) u_X_applyWhatCan (s_Q_present l) rfl (by decide +kernel) (by decide +kernel), (List.forall_mem_cons.mpr ⟨am_KVN (host := "PatchedMachine") (na := 1) u_X_applyWhatCan (s_U_collect l) rfl (by decide +kernel) (by decide +kernel), (List.forall_mem_cons.mpr ⟨am_KVN (host := "PatchedMachine") (na := 2) u_X_applyWhatCan (s_H_moveObjects l) rfl (by decide +kernel) (by decide +kernel), (List.forall_mem_cons.mpr ⟨am_KVN (host := "PatchedMachine") (na := 0) u_X_applyWhatCan (s_Q_advance l) rfl (by decide +kernel) (by decide +kernel), (fun _ h => absurd h List.not_mem_nil)⟩)⟩)⟩)⟩)⟩)⟩) (fun x t h => by cases h) (by decide +kernel))
def t_X_commit : List Jvm.Cond := [.fieldLink "PatchedMachine" 10 "PatchedMachine" "draft" "LPatchedMachine$Program;", .laysFinal "PatchedMachine" "PatchedMachine" "draft" "LPatchedMachine$Program;", .laysFinal "PatchedMachine" "PatchedMachine" "line" "LPatchedMachine$PatchLine;", .laysFinal "PatchedMachine" "PatchedMachine" "checker" "LPatchedMachine$Checker;", .laysFinal "PatchedMachine" "PatchedMachine" "runner" "LPatchedMachine$Runner;", .lays "PatchedMachine" "PatchedMachine" "applied" "I", .lays "PatchedMachine" "PatchedMachine" "moved" "I", .methodLinkNest "PatchedMachine" 111 y_P_touchesAnything "PatchedMachine", .code y_P_touchesAnything prog_8_method_6_code 1 (some .boolean), .initialized "PatchedMachine$Program", .instanceMethod y_P_touchesAnything, .selects "PatchedMachine$Program" y_P_touchesAnything y_P_touchesAnything, .fieldLink "PatchedMachine" 19 "PatchedMachine" "line" "LPatchedMachine$PatchLine;", .methodLinkNest "PatchedMachine" 118 y_Q_isFull "PatchedMachine", .code y_Q_isFull prog_6_method_5_code 1 (some .boolean), .initialized "PatchedMachine$PatchLine", .instanceMethod y_Q_isFull, .selects "PatchedMachine$PatchLine" y_Q_isFull y_Q_isFull, .fieldLink "PatchedMachine" 26 "PatchedMachine" "checker" "LPatchedMachine$Checker;", .methodLinkNest "PatchedMachine" 119 y_C_firstBadPlace "PatchedMachine", .code y_C_firstBadPlace prog_2_method_2_code 4 (some .int), .initialized "PatchedMachine$Checker", .instanceMethod y_C_firstBadPlace, .selects "PatchedMachine$Checker" y_C_firstBadPlace y_C_firstBadPlace, .methodLinkNest "PatchedMachine" 75 y_Q_newest "PatchedMachine", .code y_Q_newest prog_6_method_4_code 1 (some (.object "PatchedMachine$Program")), .instanceMethod y_Q_newest, .selects "PatchedMachine$PatchLine" y_Q_newest y_Q_newest, .methodLinkNest "PatchedMachine" 123 y_P_restrict "PatchedMachine", .code y_P_restrict prog_8_method_9_code 5 none, .instanceMethod y_P_restrict, .selects "PatchedMachine$Program" y_P_restrict y_P_restrict, .methodLinkNest "PatchedMachine" 126 y_Q_add "PatchedMachine", .code y_Q_add prog_6_method_6_code 2 none, .instanceMethod y_Q_add, .selects "PatchedMachine$PatchLine" y_Q_add y_Q_add, .methodLinkNest "PatchedMachine" 114 y_P_beginAs "PatchedMachine", .code y_P_beginAs prog_8_method_8_code 2 none, .instanceMethod y_P_beginAs, .selects "PatchedMachine$Program" y_P_beginAs y_P_beginAs, .methodLink "PatchedMachine" 128 y_X_applyWhatCan, .code y_X_applyWhatCan prog_1_method_22_code 3 none, .initialized "PatchedMachine", .instanceMethod y_X_applyWhatCan, .selects "PatchedMachine" y_X_applyWhatCan y_X_applyWhatCan]
set_option maxRecDepth 100000 in
theorem u_X_commit : ∀ w ∈ t_X_commit, w ∈ am_tb := am_subI [374, 380, 382, 384, 386, 388, 390, 486, 489, 106, 488, 13, 375, 514, 517, 109, 516, 18, 376, 518, 521, 110, 520, 19, 430, 433, 432, 5, 583, 586, 585, 35, 603, 606, 605, 40, 490, 493, 492, 14, 610, 613, 105, 612, 41] (by decide +kernel) (by decide +kernel)
set_option maxRecDepth 100000 in
theorem s_X_commit (l : Launch) : am_Sd l am_cl y_X_commit (am_ws y_X_commit prog_1_method_7_code 2 (some .int)) 5 114 f_X_commit :=
  am_meth (by decide +kernel) (Or.inl ⟨rfl, rfl⟩) rfl (by decide) am_htc g_X_commit (am_ctx (cb := cb_X_commit) t_X_commit [(111, .invokevirtual 111), (118, .invokevirtual 118), (119, .invokevirtual 119), (75, .invokevirtual 75), (123, .invokevirtual 123), (126, .invokevirtual 126), (114, .invokevirtual 114), (128, .invokevirtual 128)] "PatchedMachine" false [] [] u_X_commit rfl (by decide +kernel) (fun h => by cases h)
    (List.forall_mem_cons.mpr ⟨am_KVN (host := "PatchedMachine") (na := 0) u_X_commit (s_P_touchesAnything l) rfl (by decide +kernel) (by decide +kernel), (List.forall_mem_cons.mpr ⟨am_KVN (host := "PatchedMachine") (na := 0) u_X_commit (s_Q_isFull l) rfl (by decide +kernel) (by decide +kernel), (List.forall_mem_cons.mpr ⟨am_KVN (host := "PatchedMachine") (na := 1) u_X_commit (s_C_firstBadPlace l) rfl (by decide +kernel) (by decide +kernel), (List.forall_mem_cons.mpr ⟨am_KVN (host := "PatchedMachine") (na := 0) u_X_commit (s_Q_newest l) rfl (by decide +kernel) (by decide +kernel), (List.forall_mem_cons.mpr ⟨am_KVN (host := "PatchedMachine") (na := 1) u_X_commit (s_P_restrict l) rfl (by decide +kernel) (by decide +kernel), (List.forall_mem_cons.mpr ⟨am_KVN (host := "PatchedMachine") (na := 1) u_X_commit (s_Q_add l) rfl (by decide +kernel) (by decide +kernel), (List.forall_mem_cons.mpr ⟨am_KVN (host := "PatchedMachine") (na := 1) u_X_commit (s_P_beginAs l) rfl (by decide +kernel) (by decide +kernel), (List.forall_mem_cons.mpr ⟨am_KV (na := 0) u_X_commit (s_X_applyWhatCan l) rfl (by decide +kernel) (by decide +kernel), (fun _ h => absurd h List.not_mem_nil)⟩)⟩)⟩)⟩)⟩)⟩)⟩)⟩) (fun x t h => by cases h) (by decide +kernel))
def t_X_waiting : List Jvm.Cond := [.fieldLink "PatchedMachine" 19 "PatchedMachine" "line" "LPatchedMachine$PatchLine;", .laysFinal "PatchedMachine" "PatchedMachine" "draft" "LPatchedMachine$Program;", .laysFinal "PatchedMachine" "PatchedMachine" "line" "LPatchedMachine$PatchLine;", .laysFinal "PatchedMachine" "PatchedMachine" "checker" "LPatchedMachine$Checker;", .laysFinal "PatchedMachine" "PatchedMachine" "runner" "LPatchedMachine$Runner;", .lays "PatchedMachine" "PatchedMachine" "applied" "I", .lays "PatchedMachine" "PatchedMachine" "moved" "I", .fieldLinkNest "PatchedMachine" 131 "PatchedMachine$PatchLine" "length" "I" "PatchedMachine", .laysFinal "PatchedMachine$PatchLine" "PatchedMachine$PatchLine" "ring" "[LPatchedMachine$Program;", .lays "PatchedMachine$PatchLine" "PatchedMachine$PatchLine" "first" "I", .lays "PatchedMachine$PatchLine" "PatchedMachine$PatchLine" "length" "I"]
set_option maxRecDepth 100000 in
theorem u_X_waiting : ∀ w ∈ t_X_waiting, w ∈ am_tb := am_subI [375, 380, 382, 384, 386, 388, 390, 239, 240, 242, 244] (by decide +kernel) (by decide +kernel)
set_option maxRecDepth 100000 in
theorem s_X_waiting (l : Launch) : am_Sd l am_cl y_X_waiting (am_ws y_X_waiting prog_1_method_8_code 1 (some .int)) 0 0 f_X_waiting :=
  am_meth (by decide +kernel) (Or.inl ⟨rfl, rfl⟩) rfl (by decide) am_htc g_X_waiting (am_ctx (cb := cb_X_waiting) t_X_waiting [] "PatchedMachine" false [] [] u_X_waiting rfl (by decide +kernel) (fun h => by cases h)
    (fun _ h => absurd h List.not_mem_nil) (fun x t h => by cases h) (by decide +kernel))
def t_X_restricted : List Jvm.Cond := [.fieldLink "PatchedMachine" 19 "PatchedMachine" "line" "LPatchedMachine$PatchLine;", .laysFinal "PatchedMachine" "PatchedMachine" "draft" "LPatchedMachine$Program;", .laysFinal "PatchedMachine" "PatchedMachine" "line" "LPatchedMachine$PatchLine;", .laysFinal "PatchedMachine" "PatchedMachine" "checker" "LPatchedMachine$Checker;", .laysFinal "PatchedMachine" "PatchedMachine" "runner" "LPatchedMachine$Runner;", .lays "PatchedMachine" "PatchedMachine" "applied" "I", .lays "PatchedMachine" "PatchedMachine" "moved" "I", .fieldLinkNest "PatchedMachine" 131 "PatchedMachine$PatchLine" "length" "I" "PatchedMachine", .laysFinal "PatchedMachine$PatchLine" "PatchedMachine$PatchLine" "ring" "[LPatchedMachine$Program;", .lays "PatchedMachine$PatchLine" "PatchedMachine$PatchLine" "first" "I", .lays "PatchedMachine$PatchLine" "PatchedMachine$PatchLine" "length" "I", .methodLinkNest "PatchedMachine" 134 y_Q_firstWaiting "PatchedMachine", .code y_Q_firstWaiting prog_6_method_3_code 1 (some (.object "PatchedMachine$Program")), .initialized "PatchedMachine$PatchLine", .instanceMethod y_Q_firstWaiting, .selects "PatchedMachine$PatchLine" y_Q_firstWaiting y_Q_firstWaiting, .fieldLinkNest "PatchedMachine" 137 "PatchedMachine$Program" "restrictedMethods" "I" "PatchedMachine", .laysFinal "PatchedMachine$Program" "PatchedMachine$Program" "layouts" "[LPatchedMachine$Layout;", .laysFinal "PatchedMachine$Program" "PatchedMachine$Program" "routines" "[LPatchedMachine$Routine;", .lays "PatchedMachine$Program" "PatchedMachine$Program" "touchedClasses" "I", .lays "PatchedMachine$Program" "PatchedMachine$Program" "touchedMethods" "I", .lays "PatchedMachine$Program" "PatchedMachine$Program" "restrictedMethods" "I"]
set_option maxRecDepth 100000 in
theorem u_X_restricted : ∀ w ∈ t_X_restricted, w ∈ am_tb := am_subI [375, 380, 382, 384, 386, 388, 390, 239, 240, 242, 244, 614, 617, 109, 616, 42, 215, 216, 218, 220, 222, 224] (by decide +kernel) (by decide +kernel)
set_option maxRecDepth 100000 in
theorem s_X_restricted (l : Launch) : am_Sd l am_cl y_X_restricted (am_ws y_X_restricted prog_1_method_9_code 1 (some .int)) 1 20 f_X_restricted :=
  am_meth (by decide +kernel) (Or.inl ⟨rfl, rfl⟩) rfl (by decide) am_htc g_X_restricted (am_ctx (cb := cb_X_restricted) t_X_restricted [(134, .invokevirtual 134)] "PatchedMachine" false [] [] u_X_restricted rfl (by decide +kernel) (fun h => by cases h)
    (List.forall_mem_cons.mpr ⟨am_KVN (host := "PatchedMachine") (na := 0) u_X_restricted (s_Q_firstWaiting l) rfl (by decide +kernel) (by decide +kernel), (fun _ h => absurd h List.not_mem_nil)⟩) (fun x t h => by cases h) (by decide +kernel))
def t_X_applied : List Jvm.Cond := [.fieldLink "PatchedMachine" 37 "PatchedMachine" "applied" "I", .laysFinal "PatchedMachine" "PatchedMachine" "draft" "LPatchedMachine$Program;", .laysFinal "PatchedMachine" "PatchedMachine" "line" "LPatchedMachine$PatchLine;", .laysFinal "PatchedMachine" "PatchedMachine" "checker" "LPatchedMachine$Checker;", .laysFinal "PatchedMachine" "PatchedMachine" "runner" "LPatchedMachine$Runner;", .lays "PatchedMachine" "PatchedMachine" "applied" "I", .lays "PatchedMachine" "PatchedMachine" "moved" "I"]
set_option maxRecDepth 100000 in
theorem u_X_applied : ∀ w ∈ t_X_applied, w ∈ am_tb := am_subI [378, 380, 382, 384, 386, 388, 390] (by decide +kernel) (by decide +kernel)
set_option maxRecDepth 100000 in
theorem s_X_applied (l : Launch) : am_Sd l am_cl y_X_applied (am_ws y_X_applied prog_1_method_10_code 1 (some .int)) 0 0 f_X_applied :=
  am_meth (by decide +kernel) (Or.inl ⟨rfl, rfl⟩) rfl (by decide) am_htc g_X_applied (am_ctx (cb := cb_X_applied) t_X_applied [] "PatchedMachine" false [] [] u_X_applied rfl (by decide +kernel) (fun h => by cases h)
    (fun _ h => absurd h List.not_mem_nil) (fun x t h => by cases h) (by decide +kernel))
def t_X_moved : List Jvm.Cond := [.fieldLink "PatchedMachine" 41 "PatchedMachine" "moved" "I", .laysFinal "PatchedMachine" "PatchedMachine" "draft" "LPatchedMachine$Program;", .laysFinal "PatchedMachine" "PatchedMachine" "line" "LPatchedMachine$PatchLine;", .laysFinal "PatchedMachine" "PatchedMachine" "checker" "LPatchedMachine$Checker;", .laysFinal "PatchedMachine" "PatchedMachine" "runner" "LPatchedMachine$Runner;", .lays "PatchedMachine" "PatchedMachine" "applied" "I", .lays "PatchedMachine" "PatchedMachine" "moved" "I"]
set_option maxRecDepth 100000 in
theorem u_X_moved : ∀ w ∈ t_X_moved, w ∈ am_tb := am_subI [379, 380, 382, 384, 386, 388, 390] (by decide +kernel) (by decide +kernel)
set_option maxRecDepth 100000 in
theorem s_X_moved (l : Launch) : am_Sd l am_cl y_X_moved (am_ws y_X_moved prog_1_method_11_code 1 (some .int)) 0 0 f_X_moved :=
  am_meth (by decide +kernel) (Or.inl ⟨rfl, rfl⟩) rfl (by decide) am_htc g_X_moved (am_ctx (cb := cb_X_moved) t_X_moved [] "PatchedMachine" false [] [] u_X_moved rfl (by decide +kernel) (fun h => by cases h)
    (fun _ h => absurd h List.not_mem_nil) (fun x t h => by cases h) (by decide +kernel))
def t_U_goesOn : List Jvm.Cond := [.fieldLink "PatchedMachine$Runner" 35 "PatchedMachine$Runner" "status" "I", .laysFinal "PatchedMachine$Runner" "PatchedMachine$Runner" "frames" "[LPatchedMachine$Frame;", .laysFinal "PatchedMachine$Runner" "PatchedMachine$Runner" "heap" "LPatchedMachine$Heap;", .laysFinal "PatchedMachine$Runner" "PatchedMachine$Runner" "printer" "LPatchedMachine$Printer;", .lays "PatchedMachine$Runner" "PatchedMachine$Runner" "depth" "I", .lays "PatchedMachine$Runner" "PatchedMachine$Runner" "status" "I", .lays "PatchedMachine$Runner" "PatchedMachine$Runner" "result" "I"]
set_option maxRecDepth 100000 in
theorem u_U_goesOn : ∀ w ∈ t_U_goesOn, w ∈ am_tb := am_subI [357, 361, 363, 365, 367, 369, 371] (by decide +kernel) (by decide +kernel)
set_option maxRecDepth 100000 in
theorem s_U_goesOn (l : Launch) : am_Sd l am_cl y_U_goesOn (am_ws y_U_goesOn prog_10_method_2_code 1 (some .boolean)) 0 0 f_U_goesOn :=
  am_meth (by decide +kernel) (Or.inr (Or.inl ⟨rfl, rfl⟩)) rfl (by decide) am_htc g_U_goesOn (am_ctx (cb := cb_U_goesOn) t_U_goesOn [] "PatchedMachine" false [] [] u_U_goesOn rfl (by decide +kernel) (fun h => by cases h)
    (fun _ h => absurd h List.not_mem_nil) (fun x t h => by cases h) (by decide +kernel))
def t_F_begin : List Jvm.Cond := [.fieldLink "PatchedMachine$Frame" 25 "PatchedMachine$Frame" "method" "I", .laysFinal "PatchedMachine$Frame" "PatchedMachine$Frame" "locals" "[I", .laysFinal "PatchedMachine$Frame" "PatchedMachine$Frame" "stack" "[I", .laysFinal "PatchedMachine$Frame" "PatchedMachine$Frame" "stackTypes" "[I", .lays "PatchedMachine$Frame" "PatchedMachine$Frame" "height" "I", .lays "PatchedMachine$Frame" "PatchedMachine$Frame" "method" "I", .lays "PatchedMachine$Frame" "PatchedMachine$Frame" "place" "I", .fieldLink "PatchedMachine$Frame" 28 "PatchedMachine$Frame" "place" "I", .fieldLink "PatchedMachine$Frame" 21 "PatchedMachine$Frame" "height" "I", .fieldLink "PatchedMachine$Frame" 9 "PatchedMachine$Frame" "locals" "[I"]
set_option maxRecDepth 100000 in
theorem u_F_begin : ∀ w ∈ t_F_begin, w ∈ am_tb := am_subI [330, 336, 338, 340, 342, 344, 346, 333, 328, 322] (by decide +kernel) (by decide +kernel)
set_option maxRecDepth 100000 in
theorem s_F_begin (l : Launch) : am_Sd l am_cl y_F_begin (am_ws y_F_begin prog_3_method_2_code 3 none) 0 0 f_F_begin :=
  am_meth (by decide +kernel) (Or.inr (Or.inr (Or.inl ⟨rfl, rfl⟩))) rfl (by decide) am_htc g_F_begin (am_ctx (cb := cb_F_begin) t_F_begin [] "PatchedMachine" false [25, 28, 21] [] u_F_begin rfl (by decide +kernel) (fun h => by cases h)
    (fun _ h => absurd h List.not_mem_nil) (fun x t h => by cases h) (by decide +kernel))
def t_U_begin : List Jvm.Cond := [.fieldLink "PatchedMachine$Runner" 35 "PatchedMachine$Runner" "status" "I", .laysFinal "PatchedMachine$Runner" "PatchedMachine$Runner" "frames" "[LPatchedMachine$Frame;", .laysFinal "PatchedMachine$Runner" "PatchedMachine$Runner" "heap" "LPatchedMachine$Heap;", .laysFinal "PatchedMachine$Runner" "PatchedMachine$Runner" "printer" "LPatchedMachine$Printer;", .lays "PatchedMachine$Runner" "PatchedMachine$Runner" "depth" "I", .lays "PatchedMachine$Runner" "PatchedMachine$Runner" "status" "I", .lays "PatchedMachine$Runner" "PatchedMachine$Runner" "result" "I", .fieldLink "PatchedMachine$Runner" 38 "PatchedMachine$Runner" "result" "I", .fieldLink "PatchedMachine$Runner" 31 "PatchedMachine$Runner" "depth" "I", .fieldLink "PatchedMachine$Runner" 11 "PatchedMachine$Runner" "frames" "[LPatchedMachine$Frame;", .methodLinkNest "PatchedMachine$Runner" 42 y_F_begin "PatchedMachine", .code y_F_begin prog_3_method_2_code 3 none, .initialized "PatchedMachine$Frame", .instanceMethod y_F_begin, .selects "PatchedMachine$Frame" y_F_begin y_F_begin]
set_option maxRecDepth 100000 in
theorem u_U_begin : ∀ w ∈ t_U_begin, w ∈ am_tb := am_subI [357, 361, 363, 365, 367, 369, 371, 359, 355, 349, 698, 701, 114, 700, 56] (by decide +kernel) (by decide +kernel)
set_option maxRecDepth 100000 in
theorem s_U_begin (l : Launch) : am_Sd l am_cl y_U_begin (am_ws y_U_begin prog_10_method_3_code 2 none) 1 22 f_U_begin :=
  am_meth (by decide +kernel) (Or.inr (Or.inr (Or.inl ⟨rfl, rfl⟩))) rfl (by decide) am_htc g_U_begin (am_ctx (cb := cb_U_begin) t_U_begin [(42, .invokevirtual 42)] "PatchedMachine" false [35, 38, 31] [] u_U_begin rfl (by decide +kernel) (fun h => by cases h)
    (List.forall_mem_cons.mpr ⟨am_KVN (host := "PatchedMachine") (na := 1) u_U_begin (s_F_begin l) rfl (by decide +kernel) (by decide +kernel), (fun _ h => absurd h List.not_mem_nil)⟩) (fun x t h => by cases h) (by decide +kernel))
def t_X_start : List Jvm.Cond := [.fieldLink "PatchedMachine" 33 "PatchedMachine" "runner" "LPatchedMachine$Runner;", .laysFinal "PatchedMachine" "PatchedMachine" "draft" "LPatchedMachine$Program;", .laysFinal "PatchedMachine" "PatchedMachine" "line" "LPatchedMachine$PatchLine;", .laysFinal "PatchedMachine" "PatchedMachine" "checker" "LPatchedMachine$Checker;", .laysFinal "PatchedMachine" "PatchedMachine" "runner" "LPatchedMachine$Runner;", .lays "PatchedMachine" "PatchedMachine" "applied" "I", .lays "PatchedMachine" "PatchedMachine" "moved" "I", .methodLinkNest "PatchedMachine" 140 y_U_goesOn "PatchedMachine", .code y_U_goesOn prog_10_method_2_code 1 (some .boolean), .initialized "PatchedMachine$Runner", .instanceMethod y_U_goesOn, .selects "PatchedMachine$Runner" y_U_goesOn y_U_goesOn, .methodLink "PatchedMachine" 86 y_X_isMethod, .code y_X_isMethod prog_1_method_24_code 1 (some .boolean), .initialized "PatchedMachine", .static y_X_isMethod, .fieldLink "PatchedMachine" 19 "PatchedMachine" "line" "LPatchedMachine$PatchLine;", .methodLinkNest "PatchedMachine" 143 y_Q_present "PatchedMachine", .code y_Q_present prog_6_method_2_code 1 (some (.object "PatchedMachine$Program")), .initialized "PatchedMachine$PatchLine", .instanceMethod y_Q_present, .selects "PatchedMachine$PatchLine" y_Q_present y_Q_present, .fieldLinkNest "PatchedMachine" 96 "PatchedMachine$Program" "routines" "[LPatchedMachine$Routine;" "PatchedMachine", .laysFinal "PatchedMachine$Program" "PatchedMachine$Program" "layouts" "[LPatchedMachine$Layout;", .laysFinal "PatchedMachine$Program" "PatchedMachine$Program" "routines" "[LPatchedMachine$Routine;", .lays "PatchedMachine$Program" "PatchedMachine$Program" "touchedClasses" "I", .lays "PatchedMachine$Program" "PatchedMachine$Program" "touchedMethods" "I", .lays "PatchedMachine$Program" "PatchedMachine$Program" "restrictedMethods" "I", .methodLinkNest "PatchedMachine" 146 y_R_isDefined "PatchedMachine", .code y_R_isDefined prog_9_method_3_code 1 (some .boolean), .initialized "PatchedMachine$Routine", .instanceMethod y_R_isDefined, .selects "PatchedMachine$Routine" y_R_isDefined y_R_isDefined, .fieldLinkNest "PatchedMachine" 149 "PatchedMachine$Routine" "parameters" "I" "PatchedMachine", .laysFinal "PatchedMachine$Routine" "PatchedMachine$Routine" "locals" "[I", .laysFinal "PatchedMachine$Routine" "PatchedMachine$Routine" "ops" "[I", .laysFinal "PatchedMachine$Routine" "PatchedMachine$Routine" "xs" "[I", .laysFinal "PatchedMachine$Routine" "PatchedMachine$Routine" "ys" "[I", .lays "PatchedMachine$Routine" "PatchedMachine$Routine" "parameters" "I", .lays "PatchedMachine$Routine" "PatchedMachine$Routine" "result" "I", .lays "PatchedMachine$Routine" "PatchedMachine$Routine" "length" "I", .fieldLinkNest "PatchedMachine" 152 "PatchedMachine$Routine" "result" "I" "PatchedMachine", .methodLinkNest "PatchedMachine" 155 y_U_begin "PatchedMachine", .code y_U_begin prog_10_method_3_code 2 none, .instanceMethod y_U_begin, .selects "PatchedMachine$Runner" y_U_begin y_U_begin]
set_option maxRecDepth 100000 in
theorem u_X_start : ∀ w ∈ t_X_start, w ∈ am_tb := am_subI [377, 380, 382, 384, 386, 388, 390, 689, 692, 111, 691, 54, 448, 450, 105, 449, 375, 622, 625, 109, 624, 44, 210, 216, 218, 220, 222, 224, 693, 574, 108, 573, 32, 181, 188, 190, 192, 194, 196, 198, 200, 185, 694, 697, 696, 55] (by decide +kernel) (by decide +kernel)
set_option maxRecDepth 100000 in
theorem s_X_start (l : Launch) : am_Sd l am_cl y_X_start (am_ws y_X_start prog_1_method_12_code 3 (some .boolean)) 2 43 f_X_start :=
  am_meth (by decide +kernel) (Or.inr (Or.inl ⟨rfl, rfl⟩)) rfl (by decide) am_htc g_X_start (am_ctx (cb := cb_X_start) t_X_start [(140, .invokevirtual 140), (86, .invokestatic 86), (143, .invokevirtual 143), (146, .invokevirtual 146), (155, .invokevirtual 155)] "PatchedMachine" false [] [] u_X_start rfl (by decide +kernel) (fun h => by cases h)
    (List.forall_mem_cons.mpr ⟨am_KVN (host := "PatchedMachine") (na := 0) u_X_start (s_U_goesOn l) rfl (by decide +kernel) (by decide +kernel), (List.forall_mem_cons.mpr ⟨am_KS (na := 1) u_X_start (s_X_isMethod l) (by decide +kernel) (by decide +kernel), (List.forall_mem_cons.mpr ⟨am_KVN (host := "PatchedMachine") (na := 0) u_X_start (s_Q_present l) rfl (by decide +kernel) (by decide +kernel), (List.forall_mem_cons.mpr ⟨am_KVN (host := "PatchedMachine") (na := 0) u_X_start (s_R_isDefined l) rfl (by decide +kernel) (by decide +kernel), (List.forall_mem_cons.mpr ⟨am_KVN (host := "PatchedMachine") (na := 1) u_X_start (s_U_begin l) rfl (by decide +kernel) (by decide +kernel), (fun _ h => absurd h List.not_mem_nil)⟩)⟩)⟩)⟩)⟩) (fun x t h => by cases h) (by decide +kernel))
def t_H_isFull : List Jvm.Cond := [.fieldLink "PatchedMachine$Heap" 34 "PatchedMachine$Heap" "count" "I", .laysFinal "PatchedMachine$Heap" "PatchedMachine$Heap" "classes" "[I", .laysFinal "PatchedMachine$Heap" "PatchedMachine$Heap" "values" "[[I", .laysFinal "PatchedMachine$Heap" "PatchedMachine$Heap" "newValues" "[I", .laysFinal "PatchedMachine$Heap" "PatchedMachine$Heap" "isReached" "[Z", .laysFinal "PatchedMachine$Heap" "PatchedMachine$Heap" "reachedRows" "[I", .lays "PatchedMachine$Heap" "PatchedMachine$Heap" "reachedCount" "I", .lays "PatchedMachine$Heap" "PatchedMachine$Heap" "count" "I"]
set_option maxRecDepth 100000 in
theorem u_H_isFull : ∀ w ∈ t_H_isFull, w ∈ am_tb := am_subI [285, 287, 289, 291, 293, 295, 297, 299] (by decide +kernel) (by decide +kernel)
set_option maxRecDepth 100000 in
theorem s_H_isFull (l : Launch) : am_Sd l am_cl y_H_isFull (am_ws y_H_isFull prog_4_method_2_code 1 (some .boolean)) 0 0 f_H_isFull :=
  am_meth (by decide +kernel) (Or.inr (Or.inl ⟨rfl, rfl⟩)) rfl (by decide) am_htc g_H_isFull (am_ctx (cb := cb_H_isFull) t_H_isFull [] "PatchedMachine" false [] [] u_H_isFull rfl (by decide +kernel) (fun h => by cases h)
    (fun _ h => absurd h List.not_mem_nil) (fun x t h => by cases h) (by decide +kernel))
def t_U_end : List Jvm.Cond := [.fieldLink "PatchedMachine$Runner" 35 "PatchedMachine$Runner" "status" "I", .laysFinal "PatchedMachine$Runner" "PatchedMachine$Runner" "frames" "[LPatchedMachine$Frame;", .laysFinal "PatchedMachine$Runner" "PatchedMachine$Runner" "heap" "LPatchedMachine$Heap;", .laysFinal "PatchedMachine$Runner" "PatchedMachine$Runner" "printer" "LPatchedMachine$Printer;", .lays "PatchedMachine$Runner" "PatchedMachine$Runner" "depth" "I", .lays "PatchedMachine$Runner" "PatchedMachine$Runner" "status" "I", .lays "PatchedMachine$Runner" "PatchedMachine$Runner" "result" "I", .fieldLink "PatchedMachine$Runner" 31 "PatchedMachine$Runner" "depth" "I"]
set_option maxRecDepth 100000 in
theorem u_U_end : ∀ w ∈ t_U_end, w ∈ am_tb := am_subI [357, 361, 363, 365, 367, 369, 371, 355] (by decide +kernel) (by decide +kernel)
set_option maxRecDepth 100000 in
theorem s_U_end (l : Launch) : am_Sd l am_cl y_U_end (am_ws y_U_end prog_10_method_4_code 2 none) 0 0 f_U_end :=
  am_meth (by decide +kernel) (Or.inr (Or.inr (Or.inl ⟨rfl, rfl⟩))) rfl (by decide) am_htc g_U_end (am_ctx (cb := cb_U_end) t_U_end [] "PatchedMachine" false [35, 31] [] u_U_end rfl (by decide +kernel) (fun h => by cases h)
    (fun _ h => absurd h List.not_mem_nil) (fun x t h => by cases h) (by decide +kernel))
def t_H_make : List Jvm.Cond := [.fieldLink "PatchedMachine$Heap" 9 "PatchedMachine$Heap" "classes" "[I", .laysFinal "PatchedMachine$Heap" "PatchedMachine$Heap" "classes" "[I", .laysFinal "PatchedMachine$Heap" "PatchedMachine$Heap" "values" "[[I", .laysFinal "PatchedMachine$Heap" "PatchedMachine$Heap" "newValues" "[I", .laysFinal "PatchedMachine$Heap" "PatchedMachine$Heap" "isReached" "[Z", .laysFinal "PatchedMachine$Heap" "PatchedMachine$Heap" "reachedRows" "[I", .lays "PatchedMachine$Heap" "PatchedMachine$Heap" "reachedCount" "I", .lays "PatchedMachine$Heap" "PatchedMachine$Heap" "count" "I", .fieldLink "PatchedMachine$Heap" 34 "PatchedMachine$Heap" "count" "I", .fieldLink "PatchedMachine$Heap" 17 "PatchedMachine$Heap" "values" "[[I", .methodLink "PatchedMachine$Heap" 37 y_H_clearValues, .code y_H_clearValues prog_4_method_8_code 2 none, .initialized "PatchedMachine$Heap", .static y_H_clearValues]
set_option maxRecDepth 100000 in
theorem u_H_make : ∀ w ∈ t_H_make, w ∈ am_tb := am_subI [279, 287, 289, 291, 293, 295, 297, 299, 285, 280, 660, 662, 112, 661] (by decide +kernel) (by decide +kernel)
set_option maxRecDepth 100000 in
theorem s_H_make (l : Launch) : am_Sd l am_cl y_H_make (am_ws y_H_make prog_4_method_4_code 3 (some .int)) 1 21 f_H_make :=
  am_meth (by decide +kernel) (Or.inl ⟨rfl, rfl⟩) rfl (by decide) am_htc g_H_make (am_ctx (cb := cb_H_make) t_H_make [(37, .invokestatic 37)] "PatchedMachine" false [34] [] u_H_make rfl (by decide +kernel) (fun h => by cases h)
    (List.forall_mem_cons.mpr ⟨am_KS (na := 1) u_H_make (s_H_clearValues l) (by decide +kernel) (by decide +kernel), (fun _ h => absurd h List.not_mem_nil)⟩) (fun x t h => by cases h) (by decide +kernel))
def t_F_put : List Jvm.Cond := [.fieldLink "PatchedMachine$Frame" 21 "PatchedMachine$Frame" "height" "I", .laysFinal "PatchedMachine$Frame" "PatchedMachine$Frame" "locals" "[I", .laysFinal "PatchedMachine$Frame" "PatchedMachine$Frame" "stack" "[I", .laysFinal "PatchedMachine$Frame" "PatchedMachine$Frame" "stackTypes" "[I", .lays "PatchedMachine$Frame" "PatchedMachine$Frame" "height" "I", .lays "PatchedMachine$Frame" "PatchedMachine$Frame" "method" "I", .lays "PatchedMachine$Frame" "PatchedMachine$Frame" "place" "I", .fieldLink "PatchedMachine$Frame" 15 "PatchedMachine$Frame" "stack" "[I", .fieldLink "PatchedMachine$Frame" 18 "PatchedMachine$Frame" "stackTypes" "[I"]
set_option maxRecDepth 100000 in
theorem u_F_put : ∀ w ∈ t_F_put, w ∈ am_tb := am_subI [328, 336, 338, 340, 342, 344, 346, 324, 326] (by decide +kernel) (by decide +kernel)
set_option maxRecDepth 100000 in
theorem s_F_put (l : Launch) : am_Sd l am_cl y_F_put (am_ws y_F_put prog_3_method_3_code 3 none) 0 0 f_F_put :=
  am_meth (by decide +kernel) (Or.inr (Or.inr (Or.inl ⟨rfl, rfl⟩))) rfl (by decide) am_htc g_F_put (am_ctx (cb := cb_F_put) t_F_put [] "PatchedMachine" false [21] [] u_F_put rfl (by decide +kernel) (fun h => by cases h)
    (fun _ h => absurd h List.not_mem_nil) (fun x t h => by cases h) (by decide +kernel))
def t_U_makeObject : List Jvm.Cond := [.fieldLink "PatchedMachine$Runner" 20 "PatchedMachine$Runner" "heap" "LPatchedMachine$Heap;", .laysFinal "PatchedMachine$Runner" "PatchedMachine$Runner" "frames" "[LPatchedMachine$Frame;", .laysFinal "PatchedMachine$Runner" "PatchedMachine$Runner" "heap" "LPatchedMachine$Heap;", .laysFinal "PatchedMachine$Runner" "PatchedMachine$Runner" "printer" "LPatchedMachine$Printer;", .lays "PatchedMachine$Runner" "PatchedMachine$Runner" "depth" "I", .lays "PatchedMachine$Runner" "PatchedMachine$Runner" "status" "I", .lays "PatchedMachine$Runner" "PatchedMachine$Runner" "result" "I", .methodLinkNest "PatchedMachine$Runner" 135 y_H_isFull "PatchedMachine", .code y_H_isFull prog_4_method_2_code 1 (some .boolean), .initialized "PatchedMachine$Heap", .instanceMethod y_H_isFull, .selects "PatchedMachine$Heap" y_H_isFull y_H_isFull, .methodLink "PatchedMachine$Runner" 139 y_U_collect, .code y_U_collect prog_10_method_16_code 3 none, .initialized "PatchedMachine$Runner", .instanceMethod y_U_collect, .selects "PatchedMachine$Runner" y_U_collect y_U_collect, .methodLink "PatchedMachine$Runner" 113 y_U_end, .code y_U_end prog_10_method_4_code 2 none, .instanceMethod y_U_end, .selects "PatchedMachine$Runner" y_U_end y_U_end, .methodLinkNest "PatchedMachine$Runner" 143 y_H_make "PatchedMachine", .code y_H_make prog_4_method_4_code 3 (some .int), .instanceMethod y_H_make, .selects "PatchedMachine$Heap" y_H_make y_H_make, .methodLinkNest "PatchedMachine$Runner" 86 y_F_put "PatchedMachine", .code y_F_put prog_3_method_3_code 3 none, .initialized "PatchedMachine$Frame", .instanceMethod y_F_put, .selects "PatchedMachine$Frame" y_F_put y_F_put]
set_option maxRecDepth 100000 in
theorem u_U_makeObject : ∀ w ∈ t_U_makeObject, w ∈ am_tb := am_subI [351, 361, 363, 365, 367, 369, 371, 719, 722, 112, 721, 60, 723, 629, 111, 628, 45, 724, 727, 726, 61, 728, 731, 730, 62, 732, 735, 114, 734, 63] (by decide +kernel) (by decide +kernel)
set_option maxRecDepth 100000 in
theorem s_U_makeObject (l : Launch) : am_Sd l am_cl y_U_makeObject (am_ws y_U_makeObject prog_10_method_13_code 4 none) 3 69 f_U_makeObject :=
  am_meth (by decide +kernel) (Or.inr (Or.inr (Or.inl ⟨rfl, rfl⟩))) rfl (by decide) am_htc g_U_makeObject (am_ctx (cb := cb_U_makeObject) t_U_makeObject [(135, .invokevirtual 135), (139, .invokevirtual 139), (113, .invokevirtual 113), (143, .invokevirtual 143), (86, .invokevirtual 86)] "PatchedMachine" false [] [] u_U_makeObject rfl (by decide +kernel) (fun h => by cases h)
    (List.forall_mem_cons.mpr ⟨am_KVN (host := "PatchedMachine") (na := 0) u_U_makeObject (s_H_isFull l) rfl (by decide +kernel) (by decide +kernel), (List.forall_mem_cons.mpr ⟨am_KV (na := 1) u_U_makeObject (s_U_collect l) rfl (by decide +kernel) (by decide +kernel), (List.forall_mem_cons.mpr ⟨am_KV (na := 1) u_U_makeObject (s_U_end l) rfl (by decide +kernel) (by decide +kernel), (List.forall_mem_cons.mpr ⟨am_KVN (host := "PatchedMachine") (na := 1) u_U_makeObject (s_H_make l) rfl (by decide +kernel) (by decide +kernel), (List.forall_mem_cons.mpr ⟨am_KVN (host := "PatchedMachine") (na := 2) u_U_makeObject (s_F_put l) rfl (by decide +kernel) (by decide +kernel), (fun _ h => absurd h List.not_mem_nil)⟩)⟩)⟩)⟩)⟩) (fun x t h => by cases h) (by decide +kernel))
def t_F_take : List Jvm.Cond := [.fieldLink "PatchedMachine$Frame" 21 "PatchedMachine$Frame" "height" "I", .laysFinal "PatchedMachine$Frame" "PatchedMachine$Frame" "locals" "[I", .laysFinal "PatchedMachine$Frame" "PatchedMachine$Frame" "stack" "[I", .laysFinal "PatchedMachine$Frame" "PatchedMachine$Frame" "stackTypes" "[I", .lays "PatchedMachine$Frame" "PatchedMachine$Frame" "height" "I", .lays "PatchedMachine$Frame" "PatchedMachine$Frame" "method" "I", .lays "PatchedMachine$Frame" "PatchedMachine$Frame" "place" "I", .fieldLink "PatchedMachine$Frame" 15 "PatchedMachine$Frame" "stack" "[I"]
set_option maxRecDepth 100000 in
theorem u_F_take : ∀ w ∈ t_F_take, w ∈ am_tb := am_subI [328, 336, 338, 340, 342, 344, 346, 324] (by decide +kernel) (by decide +kernel)
set_option maxRecDepth 100000 in
theorem s_F_take (l : Launch) : am_Sd l am_cl y_F_take (am_ws y_F_take prog_3_method_4_code 1 (some .int)) 0 0 f_F_take :=
  am_meth (by decide +kernel) (Or.inl ⟨rfl, rfl⟩) rfl (by decide) am_htc g_F_take (am_ctx (cb := cb_F_take) t_F_take [] "PatchedMachine" false [21] [] u_F_take rfl (by decide +kernel) (fun h => by cases h)
    (fun _ h => absurd h List.not_mem_nil) (fun x t h => by cases h) (by decide +kernel))
def t_H_isObject : List Jvm.Cond := []
set_option maxRecDepth 100000 in
theorem u_H_isObject : ∀ w ∈ t_H_isObject, w ∈ am_tb := am_subI [] (by decide +kernel) (by decide +kernel)
set_option maxRecDepth 100000 in
theorem s_H_isObject (l : Launch) : am_Sd l am_cl y_H_isObject (am_ws y_H_isObject prog_4_method_3_code 2 (some .boolean)) 0 0 f_H_isObject :=
  am_meth (by decide +kernel) (Or.inr (Or.inl ⟨rfl, rfl⟩)) rfl (by decide) am_htc g_H_isObject (am_ctx (cb := cb_H_isObject) t_H_isObject [] "PatchedMachine" false [] [] u_H_isObject rfl (by decide +kernel) (fun h => by cases h)
    (fun _ h => absurd h List.not_mem_nil) (fun x t h => by cases h) (by decide +kernel))
def t_H_isField : List Jvm.Cond := []
set_option maxRecDepth 100000 in
theorem u_H_isField : ∀ w ∈ t_H_isField, w ∈ am_tb := am_subI [] (by decide +kernel) (by decide +kernel)
set_option maxRecDepth 100000 in
theorem s_H_isField (l : Launch) : am_Sd l am_cl y_H_isField (am_ws y_H_isField prog_4_method_7_code 1 (some .boolean)) 0 0 f_H_isField :=
  am_meth (by decide +kernel) (Or.inr (Or.inl ⟨rfl, rfl⟩)) rfl (by decide) am_htc g_H_isField (am_ctx (cb := cb_H_isField) t_H_isField [] "PatchedMachine" false [] [] u_H_isField rfl (by decide +kernel) (fun h => by cases h)
    (fun _ h => absurd h List.not_mem_nil) (fun x t h => by cases h) (by decide +kernel))
def t_H_valueAt : List Jvm.Cond := [.methodLink "PatchedMachine$Heap" 41 y_H_isObject, .code y_H_isObject prog_4_method_3_code 2 (some .boolean), .initialized "PatchedMachine$Heap", .instanceMethod y_H_isObject, .selects "PatchedMachine$Heap" y_H_isObject y_H_isObject, .methodLink "PatchedMachine$Heap" 45 y_H_isField, .code y_H_isField prog_4_method_7_code 1 (some .boolean), .static y_H_isField, .fieldLink "PatchedMachine$Heap" 17 "PatchedMachine$Heap" "values" "[[I", .laysFinal "PatchedMachine$Heap" "PatchedMachine$Heap" "classes" "[I", .laysFinal "PatchedMachine$Heap" "PatchedMachine$Heap" "values" "[[I", .laysFinal "PatchedMachine$Heap" "PatchedMachine$Heap" "newValues" "[I", .laysFinal "PatchedMachine$Heap" "PatchedMachine$Heap" "isReached" "[Z", .laysFinal "PatchedMachine$Heap" "PatchedMachine$Heap" "reachedRows" "[I", .lays "PatchedMachine$Heap" "PatchedMachine$Heap" "reachedCount" "I", .lays "PatchedMachine$Heap" "PatchedMachine$Heap" "count" "I"]
set_option maxRecDepth 100000 in
theorem u_H_valueAt : ∀ w ∈ t_H_valueAt, w ∈ am_tb := am_subI [749, 752, 112, 751, 67, 753, 755, 754, 280, 287, 289, 291, 293, 295, 297, 299] (by decide +kernel) (by decide +kernel)
set_option maxRecDepth 100000 in
theorem s_H_valueAt (l : Launch) : am_Sd l am_cl y_H_valueAt (am_ws y_H_valueAt prog_4_method_5_code 3 (some .int)) 1 21 f_H_valueAt :=
  am_meth (by decide +kernel) (Or.inl ⟨rfl, rfl⟩) rfl (by decide) am_htc g_H_valueAt (am_ctx (cb := cb_H_valueAt) t_H_valueAt [(41, .invokevirtual 41), (45, .invokestatic 45)] "PatchedMachine" false [] [] u_H_valueAt rfl (by decide +kernel) (fun h => by cases h)
    (List.forall_mem_cons.mpr ⟨am_KV (na := 1) u_H_valueAt (s_H_isObject l) rfl (by decide +kernel) (by decide +kernel), (List.forall_mem_cons.mpr ⟨am_KS (na := 1) u_H_valueAt (s_H_isField l) (by decide +kernel) (by decide +kernel), (fun _ h => absurd h List.not_mem_nil)⟩)⟩) (fun x t h => by cases h) (by decide +kernel))
def t_U_readField : List Jvm.Cond := [.methodLinkNest "PatchedMachine$Runner" 94 y_F_take "PatchedMachine", .code y_F_take prog_3_method_4_code 1 (some .int), .initialized "PatchedMachine$Frame", .instanceMethod y_F_take, .selects "PatchedMachine$Frame" y_F_take y_F_take, .methodLink "PatchedMachine$Runner" 113 y_U_end, .code y_U_end prog_10_method_4_code 2 none, .initialized "PatchedMachine$Runner", .instanceMethod y_U_end, .selects "PatchedMachine$Runner" y_U_end y_U_end, .fieldLink "PatchedMachine$Runner" 20 "PatchedMachine$Runner" "heap" "LPatchedMachine$Heap;", .laysFinal "PatchedMachine$Runner" "PatchedMachine$Runner" "frames" "[LPatchedMachine$Frame;", .laysFinal "PatchedMachine$Runner" "PatchedMachine$Runner" "heap" "LPatchedMachine$Heap;", .laysFinal "PatchedMachine$Runner" "PatchedMachine$Runner" "printer" "LPatchedMachine$Printer;", .lays "PatchedMachine$Runner" "PatchedMachine$Runner" "depth" "I", .lays "PatchedMachine$Runner" "PatchedMachine$Runner" "status" "I", .lays "PatchedMachine$Runner" "PatchedMachine$Runner" "result" "I", .methodLinkNest "PatchedMachine$Runner" 147 y_L_find "PatchedMachine", .code y_L_find prog_5_method_5_code 3 (some .int), .initialized "PatchedMachine$Layout", .instanceMethod y_L_find, .selects "PatchedMachine$Layout" y_L_find y_L_find, .methodLinkNest "PatchedMachine$Runner" 152 y_H_valueAt "PatchedMachine", .code y_H_valueAt prog_4_method_5_code 3 (some .int), .initialized "PatchedMachine$Heap", .instanceMethod y_H_valueAt, .selects "PatchedMachine$Heap" y_H_valueAt y_H_valueAt, .methodLinkNest "PatchedMachine$Runner" 156 y_L_typeNamed "PatchedMachine", .code y_L_typeNamed prog_5_method_6_code 3 (some .int), .instanceMethod y_L_typeNamed, .selects "PatchedMachine$Layout" y_L_typeNamed y_L_typeNamed, .methodLinkNest "PatchedMachine$Runner" 86 y_F_put "PatchedMachine", .code y_F_put prog_3_method_3_code 3 none, .instanceMethod y_F_put, .selects "PatchedMachine$Frame" y_F_put y_F_put]
set_option maxRecDepth 100000 in
theorem u_U_readField : ∀ w ∈ t_U_readField, w ∈ am_tb := am_subI [740, 743, 114, 742, 65, 724, 727, 111, 726, 61, 351, 361, 363, 365, 367, 369, 371, 744, 429, 107, 428, 4, 745, 748, 112, 747, 66, 756, 437, 436, 6, 732, 735, 734, 63] (by decide +kernel) (by decide +kernel)
set_option maxRecDepth 100000 in
theorem s_U_readField (l : Launch) : am_Sd l am_cl y_U_readField (am_ws y_U_readField prog_10_method_14_code 5 none) 2 44 f_U_readField :=
  am_meth (by decide +kernel) (Or.inr (Or.inr (Or.inl ⟨rfl, rfl⟩))) rfl (by decide) am_htc g_U_readField (am_ctx (cb := cb_U_readField) t_U_readField [(94, .invokevirtual 94), (113, .invokevirtual 113), (147, .invokevirtual 147), (152, .invokevirtual 152), (156, .invokevirtual 156), (86, .invokevirtual 86)] "PatchedMachine" false [] [] u_U_readField rfl (by decide +kernel) (fun h => by cases h)
    (List.forall_mem_cons.mpr ⟨am_KVN (host := "PatchedMachine") (na := 0) u_U_readField (s_F_take l) rfl (by decide +kernel) (by decide +kernel), (List.forall_mem_cons.mpr ⟨am_KV (na := 1) u_U_readField (s_U_end l) rfl (by decide +kernel) (by decide +kernel), (List.forall_mem_cons.mpr ⟨am_KVN (host := "PatchedMachine") (na := 1) u_U_readField (s_L_find l) rfl (by decide +kernel) (by decide +kernel), (List.forall_mem_cons.mpr ⟨am_KVN (host := "PatchedMachine") (na := 2) u_U_readField (s_H_valueAt l) rfl (by decide +kernel) (by decide +kernel), (List.forall_mem_cons.mpr ⟨am_KVN (host := "PatchedMachine") (na := 1) u_U_readField (s_L_typeNamed l) rfl (by decide +kernel) (by decide +kernel), (List.forall_mem_cons.mpr ⟨am_KVN (host := "PatchedMachine") (na := 2) u_U_readField (s_F_put l) rfl (by decide +kernel) (by decide +kernel), (fun _ h => absurd h List.not_mem_nil)⟩)⟩)⟩)⟩)⟩)⟩) (fun x t h => by cases h) (by decide +kernel))
def t_H_setValue : List Jvm.Cond := [.methodLink "PatchedMachine$Heap" 41 y_H_isObject, .code y_H_isObject prog_4_method_3_code 2 (some .boolean), .initialized "PatchedMachine$Heap", .instanceMethod y_H_isObject, .selects "PatchedMachine$Heap" y_H_isObject y_H_isObject, .methodLink "PatchedMachine$Heap" 45 y_H_isField, .code y_H_isField prog_4_method_7_code 1 (some .boolean), .static y_H_isField, .fieldLink "PatchedMachine$Heap" 17 "PatchedMachine$Heap" "values" "[[I", .laysFinal "PatchedMachine$Heap" "PatchedMachine$Heap" "classes" "[I", .laysFinal "PatchedMachine$Heap" "PatchedMachine$Heap" "values" "[[I", .laysFinal "PatchedMachine$Heap" "PatchedMachine$Heap" "newValues" "[I", .laysFinal "PatchedMachine$Heap" "PatchedMachine$Heap" "isReached" "[Z", .laysFinal "PatchedMachine$Heap" "PatchedMachine$Heap" "reachedRows" "[I", .lays "PatchedMachine$Heap" "PatchedMachine$Heap" "reachedCount" "I", .lays "PatchedMachine$Heap" "PatchedMachine$Heap" "count" "I"]
set_option maxRecDepth 100000 in
theorem u_H_setValue : ∀ w ∈ t_H_setValue, w ∈ am_tb := am_subI [749, 752, 112, 751, 67, 753, 755, 754, 280, 287, 289, 291, 293, 295, 297, 299] (by decide +kernel) (by decide +kernel)
set_option maxRecDepth 100000 in
theorem s_H_setValue (l : Launch) : am_Sd l am_cl y_H_setValue (am_ws y_H_setValue prog_4_method_6_code 4 none) 1 21 f_H_setValue :=
  am_meth (by decide +kernel) (Or.inr (Or.inr (Or.inl ⟨rfl, rfl⟩))) rfl (by decide) am_htc g_H_setValue (am_ctx (cb := cb_H_setValue) t_H_setValue [(41, .invokevirtual 41), (45, .invokestatic 45)] "PatchedMachine" false [] [] u_H_setValue rfl (by decide +kernel) (fun h => by cases h)
    (List.forall_mem_cons.mpr ⟨am_KV (na := 1) u_H_setValue (s_H_isObject l) rfl (by decide +kernel) (by decide +kernel), (List.forall_mem_cons.mpr ⟨am_KS (na := 1) u_H_setValue (s_H_isField l) (by decide +kernel) (by decide +kernel), (fun _ h => absurd h List.not_mem_nil)⟩)⟩) (fun x t h => by cases h) (by decide +kernel))
end
section
theorem am_methF {l : Launch} {y : MethodName} {cl : List vw_C} {cc : ByteArray} {nL fr lo na : Nat} {ret : Option FieldType} {M : am_M} (hy : plainFor y = true) (hret : am_ret M = 0 ∧ ret = some .int ∨ am_ret M = 1 ∧ ret = some .boolean ∨ am_ret M = 2 ∧ ret = none ∨ am_ret M = 3 ∧ ∃ C, ret = some (.object C)) (hsc : am_scr M = none) (hna : na ≤ nL)
    (htc : ∀ t ci, am_tyc t = some ci → ∃ r : vw_C, cl[ci]? = some r ∧ am_ty t = some (.object r.1)) (hG : ∀ x q, am_cal M x = some q → am_grow q.2.2) (hV : am_Ctx l y cl cc nL fr lo M) : am_Sd l cl y (am_ws y cc nL ret) fr lo (am_mf M na) := by
  intro D cy tys N as h h' r al sb z hty he hva hwf hze
  unfold am_mf at he
  split at he
  · rename_i hn
    refine va_MetF (cc := cc) (maxL := nL) (ret := ret) hy rfl ?_
    intro p e s m args below meth c s₁ B hml hv
    obtain ⟨rfl, hsz, hP, hK, hD0, hN⟩ := hv
    have hx := B.exec
    have hb := B.bytes
    have hr := B.returns
    have hts := am_all (fun w hw => atoms_spec (ws := am_ws y cc nL ret) B.pre w (List.mem_cons_of_mem _ hw)) hN
    have hown : s.vm.findClass y.cls = some m.cls := findClass_of_methodNamed B.named
    have hlocks := B.notSynchronized
    have hnm : meth.name = y.name := (name_of_methodNamed B.named B.method).1
    subst hsz
    have hA : ∀ q : Nat, s.heap.size ≤ q → va_A (am_wl cy al h) s.heap.size q := fun q h => Or.inr h
    have hI : am_I (va_A (am_wl cy al h) s.heap.size) D cl cy s.heap al h s.heap [] := ⟨hP, hD0.self, va_S.rf, hwf, hze⟩
    have gr := am_run_grow hG N 0 as [] h r h' he
    rw [lg_entry_eq]
    refine W.cs (Nat.sub_self h.1.length).symm (Nat.sub_self (am_slt h.1)).symm ?_
    refine am_sim (M := M) (N := N) (rE := r) (hE := h') (al0 := al) (n0 := h.1.length) (s0 := am_slt h.1) (sb := sb) hx hb hts hown hK hty htc hA (fun q hq => by rw [hsc] at hq; cases hq) (hV p e _ s m _ below meth c _ D cy tys sb _ _ ⟨hx, hb, hml, hown, hts⟩ hN hnm hK hty hA rfl rfl) hG (by show h'.1.length ≤ h.1.length + (h'.1.length - h.1.length); omega) (by show am_slt h'.1 ≤ am_slt h.1 + (am_slt h'.1 - am_slt h.1); omega) ?_ N 0 as [] h al s.heap [] _ he hI (am_entry hva (by omega)) (fun v hv => by cases hv) (Nat.le_refl _) (Nat.le_refl _) (fun _ _ => rfl)
    intro pc i st al' H locs lk hc hd hR hI' hs hab
    have fin : ∀ (t : State), t.heap = H → (∀ v, r = some v → am_vw h'.1.length v) → am_Q D cl cy al sb h h' r s.heap.size ((as.map (am_rn al sb)).toArray) s (.returned (r.map (am_rn al' sb))) t := fun t ht hvw =>
      ⟨⟨al', hab, rfl, hvw, by rw [ht]; exact hI'.1, hI'.2.1, hI'.2.2.2.1, hI'.2.2.2.2⟩, hI'.2.2.1.F ht⟩
    cases i with
    | ireturn =>
      obtain ⟨x, rfl, hq, rfl⟩ := am_R_i hR
      rcases hret with ⟨h1, h2⟩ | ⟨h1, h2⟩ | ⟨h1, -⟩ | ⟨h1, -⟩
      · exact W.iret hx hb (hr.trans h2) (fun t ht _ => fin t ht (fun v hv => by cases hv; trivial)) hI'.2.2.1.2.2 hd
      · have hq : x = 0 ∨ x = 1 := by
          rcases hq with hq | hq
          · rw [h1] at hq; cases hq
          · exact hq.2
        exact W.zret hx hb (hr.trans h2) (by show Value.int (x &&& 1) = _; rw [am_one_nar hq]) (fun t ht _ => fin t ht (fun v hv => by cases hv; trivial)) hI'.2.2.1.2.2 hd
      · rcases hq with hq | hq
        · rw [h1] at hq; cases hq
        · rw [h1] at hq; cases hq.1
      · rcases hq with hq | hq
        · rw [h1] at hq; cases hq
        · rw [h1] at hq; cases hq.1
    | areturn =>
      obtain ⟨x, rfl, hq, rfl⟩ := am_R_a hR
      rcases hret with ⟨h1, -⟩ | ⟨h1, -⟩ | ⟨h1, -⟩ | ⟨h1, C, h2⟩
      · rw [h1] at hq; cases hq
      · rw [h1] at hq; cases hq
      · rw [h1] at hq; cases hq
      · exact W.aret hx hb (hr.trans h2) (Or.inl ⟨C, rfl⟩) (Or.inr ⟨_, rfl⟩) (fun t ht _ => fin t ht (fun v hv => by cases hv; exact hs _ List.mem_cons_self)) hI'.2.2.1.2.2 hd
    | return_ =>
      obtain ⟨rfl, hq, rfl⟩ := am_R_v hR
      rcases hret with ⟨h1, -⟩ | ⟨h1, -⟩ | ⟨h1, h2⟩ | ⟨h1, -⟩
      · rw [h1] at hq; cases hq
      · rw [h1] at hq; cases hq
      · exact W.vret hx hb (hr.trans h2) (fun t ht _ => fin t ht (fun v hv => by cases hv)) hI'.2.2.1.2.2 hd
      · rw [h1] at hq; cases hq
    | _ => cases hR
  · cases he
end
section
/-! printed by gen.py: contracts -/
def t_U_writeField : List Jvm.Cond := [.methodLinkNest "PatchedMachine$Runner" 94 y_F_take "PatchedMachine", .code y_F_take prog_3_method_4_code 1 (some .int), .initialized "PatchedMachine$Frame", .instanceMethod y_F_take, .selects "PatchedMachine$Frame" y_F_take y_F_take, .methodLink "PatchedMachine$Runner" 113 y_U_end, .code y_U_end prog_10_method_4_code 2 none, .initialized "PatchedMachine$Runner", .instanceMethod y_U_end, .selects "PatchedMachine$Runner" y_U_end y_U_end, .fieldLink "PatchedMachine$Runner" 20 "PatchedMachine$Runner" "heap" "LPatchedMachine$Heap;", .laysFinal "PatchedMachine$Runner" "PatchedMachine$Runner" "frames" "[LPatchedMachine$Frame;", .laysFinal "PatchedMachine$Runner" "PatchedMachine$Runner" "heap" "LPatchedMachine$Heap;", .laysFinal "PatchedMachine$Runner" "PatchedMachine$Runner" "printer" "LPatchedMachine$Printer;", .lays "PatchedMachine$Runner" "PatchedMachine$Runner" "depth" "I", .lays "PatchedMachine$Runner" "PatchedMachine$Runner" "status" "I", .lays "PatchedMachine$Runner" "PatchedMachine$Runner" "result" "I", .methodLinkNest "PatchedMachine$Runner" 147 y_L_find "PatchedMachine", .code y_L_find prog_5_method_5_code 3 (some .int), .initialized "PatchedMachine$Layout", .instanceMethod y_L_find, .selects "PatchedMachine$Layout" y_L_find y_L_find, .methodLinkNest "PatchedMachine$Runner" 159 y_H_setValue "PatchedMachine", .code y_H_setValue prog_4_method_6_code 4 none, .initialized "PatchedMachine$Heap", .instanceMethod y_H_setValue, .selects "PatchedMachine$Heap" y_H_setValue y_H_setValue]
set_option maxRecDepth 100000 in
theorem u_U_writeField : ∀ w ∈ t_U_writeField, w ∈ am_tb := am_subI [740, 743, 114, 742, 65, 724, 727, 111, 726, 61, 351, 361, 363, 365, 367, 369, 371, 744, 429, 107, 428, 4, 761, 764, 112, 763, 69] (by decide +kernel) (by decide +kernel)
set_option maxRecDepth 100000 in
theorem s_U_writeField (l : Launch) : am_Sd l am_cl y_U_writeField (am_ws y_U_writeField prog_10_method_15_code 6 none) 2 44 f_U_writeField :=
  am_meth (by decide +kernel) (Or.inr (Or.inr (Or.inl ⟨rfl, rfl⟩))) rfl (by decide) am_htc g_U_writeField (am_ctx (cb := cb_U_writeField) t_U_writeField [(94, .invokevirtual 94), (113, .invokevirtual 113), (147, .invokevirtual 147), (159, .invokevirtual 159)] "PatchedMachine" false [] [] u_U_writeField rfl (by decide +kernel) (fun h => by cases h)
    (List.forall_mem_cons.mpr ⟨am_KVN (host := "PatchedMachine") (na := 0) u_U_writeField (s_F_take l) rfl (by decide +kernel) (by decide +kernel), (List.forall_mem_cons.mpr ⟨am_KV (na := 1) u_U_writeField (s_U_end l) rfl (by decide +kernel) (by decide +kernel), (List.forall_mem_cons.mpr ⟨am_KVN (host := "PatchedMachine") (na := 1) u_U_writeField (s_L_find l) rfl (by decide +kernel) (by decide +kernel), (List.forall_mem_cons.mpr ⟨am_KVN (host := "PatchedMachine") (na := 3) u_U_writeField (s_H_setValue l) rfl (by decide +kernel) (by decide +kernel), (fun _ h => absurd h List.not_mem_nil)⟩)⟩)⟩)⟩) (fun x t h => by cases h) (by decide +kernel))
def t_U_stepOnObjects : List Jvm.Cond := [.methodLink "PatchedMachine$Runner" 120 y_U_makeObject, .code y_U_makeObject prog_10_method_13_code 4 none, .initialized "PatchedMachine$Runner", .instanceMethod y_U_makeObject, .selects "PatchedMachine$Runner" y_U_makeObject y_U_makeObject, .fieldLinkNest "PatchedMachine$Runner" 124 "PatchedMachine$Program" "layouts" "[LPatchedMachine$Layout;" "PatchedMachine", .laysFinal "PatchedMachine$Program" "PatchedMachine$Program" "layouts" "[LPatchedMachine$Layout;", .laysFinal "PatchedMachine$Program" "PatchedMachine$Program" "routines" "[LPatchedMachine$Routine;", .lays "PatchedMachine$Program" "PatchedMachine$Program" "touchedClasses" "I", .lays "PatchedMachine$Program" "PatchedMachine$Program" "touchedMethods" "I", .lays "PatchedMachine$Program" "PatchedMachine$Program" "restrictedMethods" "I", .methodLink "PatchedMachine$Runner" 128 y_U_readField, .code y_U_readField prog_10_method_14_code 5 none, .instanceMethod y_U_readField, .selects "PatchedMachine$Runner" y_U_readField y_U_readField, .methodLink "PatchedMachine$Runner" 132 y_U_writeField, .code y_U_writeField prog_10_method_15_code 6 none, .instanceMethod y_U_writeField, .selects "PatchedMachine$Runner" y_U_writeField y_U_writeField, .methodLinkNest "PatchedMachine$Runner" 94 y_F_take "PatchedMachine", .code y_F_take prog_3_method_4_code 1 (some .int), .initialized "PatchedMachine$Frame", .instanceMethod y_F_take, .selects "PatchedMachine$Frame" y_F_take y_F_take, .methodLinkNest "PatchedMachine$Runner" 86 y_F_put "PatchedMachine", .code y_F_put prog_3_method_3_code 3 none, .instanceMethod y_F_put, .selects "PatchedMachine$Frame" y_F_put y_F_put]
set_option maxRecDepth 100000 in
theorem u_U_stepOnObjects : ∀ w ∈ t_U_stepOnObjects, w ∈ am_tb := am_subI [715, 718, 111, 717, 59, 207, 216, 218, 220, 222, 224, 736, 739, 738, 64, 757, 760, 759, 68, 740, 743, 114, 742, 65, 732, 735, 734, 63] (by decide +kernel) (by decide +kernel)
set_option maxRecDepth 100000 in
theorem s_U_stepOnObjects (l : Launch) : am_Sd l am_cl y_U_stepOnObjects (am_ws y_U_stepOnObjects prog_10_method_12_code 6 none) 4 92 f_U_stepOnObjects :=
  am_meth (by decide +kernel) (Or.inr (Or.inr (Or.inl ⟨rfl, rfl⟩))) rfl (by decide) am_htc g_U_stepOnObjects (am_ctx (cb := cb_U_stepOnObjects) t_U_stepOnObjects [(120, .invokevirtual 120), (128, .invokevirtual 128), (132, .invokevirtual 132), (94, .invokevirtual 94), (86, .invokevirtual 86)] "PatchedMachine" false [] [] u_U_stepOnObjects rfl (by decide +kernel) (fun h => by cases h)
    (List.forall_mem_cons.mpr ⟨am_KV (na := 3) u_U_stepOnObjects (s_U_makeObject l) rfl (by decide +kernel) (by decide +kernel), (List.forall_mem_cons.mpr ⟨am_KV (na := 3) u_U_stepOnObjects (s_U_readField l) rfl (by decide +kernel) (by decide +kernel), (List.forall_mem_cons.mpr ⟨am_KV (na := 3) u_U_stepOnObjects (s_U_writeField l) rfl (by decide +kernel) (by decide +kernel), (List.forall_mem_cons.mpr ⟨am_KVN (host := "PatchedMachine") (na := 0) u_U_stepOnObjects (s_F_take l) rfl (by decide +kernel) (by decide +kernel), (List.forall_mem_cons.mpr ⟨am_KVN (host := "PatchedMachine") (na := 2) u_U_stepOnObjects (s_F_put l) rfl (by decide +kernel) (by decide +kernel), (fun _ h => absurd h List.not_mem_nil)⟩)⟩)⟩)⟩)⟩) (fun x t h => by cases h) (by decide +kernel))
def t_U_enter : List Jvm.Cond := [.fieldLink "PatchedMachine$Runner" 31 "PatchedMachine$Runner" "depth" "I", .laysFinal "PatchedMachine$Runner" "PatchedMachine$Runner" "frames" "[LPatchedMachine$Frame;", .laysFinal "PatchedMachine$Runner" "PatchedMachine$Runner" "heap" "LPatchedMachine$Heap;", .laysFinal "PatchedMachine$Runner" "PatchedMachine$Runner" "printer" "LPatchedMachine$Printer;", .lays "PatchedMachine$Runner" "PatchedMachine$Runner" "depth" "I", .lays "PatchedMachine$Runner" "PatchedMachine$Runner" "status" "I", .lays "PatchedMachine$Runner" "PatchedMachine$Runner" "result" "I", .methodLink "PatchedMachine$Runner" 113 y_U_end, .code y_U_end prog_10_method_4_code 2 none, .initialized "PatchedMachine$Runner", .instanceMethod y_U_end, .selects "PatchedMachine$Runner" y_U_end y_U_end, .fieldLink "PatchedMachine$Runner" 11 "PatchedMachine$Runner" "frames" "[LPatchedMachine$Frame;", .methodLinkNest "PatchedMachine$Runner" 42 y_F_begin "PatchedMachine", .code y_F_begin prog_3_method_2_code 3 none, .initialized "PatchedMachine$Frame", .instanceMethod y_F_begin, .selects "PatchedMachine$Frame" y_F_begin y_F_begin, .fieldLinkNest "PatchedMachine$Runner" 116 "PatchedMachine$Routine" "parameters" "I" "PatchedMachine", .laysFinal "PatchedMachine$Routine" "PatchedMachine$Routine" "locals" "[I", .laysFinal "PatchedMachine$Routine" "PatchedMachine$Routine" "ops" "[I", .laysFinal "PatchedMachine$Routine" "PatchedMachine$Routine" "xs" "[I", .laysFinal "PatchedMachine$Routine" "PatchedMachine$Routine" "ys" "[I", .lays "PatchedMachine$Routine" "PatchedMachine$Routine" "parameters" "I", .lays "PatchedMachine$Routine" "PatchedMachine$Routine" "result" "I", .lays "PatchedMachine$Routine" "PatchedMachine$Routine" "length" "I", .fieldLinkNest "PatchedMachine$Runner" 90 "PatchedMachine$Frame" "locals" "[I" "PatchedMachine", .laysFinal "PatchedMachine$Frame" "PatchedMachine$Frame" "locals" "[I", .laysFinal "PatchedMachine$Frame" "PatchedMachine$Frame" "stack" "[I", .laysFinal "PatchedMachine$Frame" "PatchedMachine$Frame" "stackTypes" "[I", .lays "PatchedMachine$Frame" "PatchedMachine$Frame" "height" "I", .lays "PatchedMachine$Frame" "PatchedMachine$Frame" "method" "I", .lays "PatchedMachine$Frame" "PatchedMachine$Frame" "place" "I", .methodLinkNest "PatchedMachine$Runner" 94 y_F_take "PatchedMachine", .code y_F_take prog_3_method_4_code 1 (some .int), .instanceMethod y_F_take, .selects "PatchedMachine$Frame" y_F_take y_F_take]
set_option maxRecDepth 100000 in
theorem u_U_enter : ∀ w ∈ t_U_enter, w ∈ am_tb := am_subI [355, 361, 363, 365, 367, 369, 371, 724, 727, 111, 726, 61, 349, 698, 701, 114, 700, 56, 180, 188, 190, 192, 194, 196, 198, 200, 323, 336, 338, 340, 342, 344, 346, 740, 743, 742, 65] (by decide +kernel) (by decide +kernel)
set_option maxRecDepth 100000 in
theorem s_U_enter (l : Launch) : am_Sd l am_cl y_U_enter (am_ws y_U_enter prog_10_method_10_code 6 none) 1 22 f_U_enter :=
  am_meth (by decide +kernel) (Or.inr (Or.inr (Or.inl ⟨rfl, rfl⟩))) rfl (by decide) am_htc g_U_enter (am_ctx (cb := cb_U_enter) t_U_enter [(113, .invokevirtual 113), (42, .invokevirtual 42), (94, .invokevirtual 94)] "PatchedMachine" false [31] [] u_U_enter rfl (by decide +kernel) (fun h => by cases h)
    (List.forall_mem_cons.mpr ⟨am_KV (na := 1) u_U_enter (s_U_end l) rfl (by decide +kernel) (by decide +kernel), (List.forall_mem_cons.mpr ⟨am_KVN (host := "PatchedMachine") (na := 1) u_U_enter (s_F_begin l) rfl (by decide +kernel) (by decide +kernel), (List.forall_mem_cons.mpr ⟨am_KVN (host := "PatchedMachine") (na := 0) u_U_enter (s_F_take l) rfl (by decide +kernel) (by decide +kernel), (fun _ h => absurd h List.not_mem_nil)⟩)⟩)⟩) (fun x t h => by cases h) (by decide +kernel))
def t_U_leave : List Jvm.Cond := [.methodLinkNest "PatchedMachine$Runner" 94 y_F_take "PatchedMachine", .code y_F_take prog_3_method_4_code 1 (some .int), .initialized "PatchedMachine$Frame", .instanceMethod y_F_take, .selects "PatchedMachine$Frame" y_F_take y_F_take, .fieldLink "PatchedMachine$Runner" 31 "PatchedMachine$Runner" "depth" "I", .laysFinal "PatchedMachine$Runner" "PatchedMachine$Runner" "frames" "[LPatchedMachine$Frame;", .laysFinal "PatchedMachine$Runner" "PatchedMachine$Runner" "heap" "LPatchedMachine$Heap;", .laysFinal "PatchedMachine$Runner" "PatchedMachine$Runner" "printer" "LPatchedMachine$Printer;", .lays "PatchedMachine$Runner" "PatchedMachine$Runner" "depth" "I", .lays "PatchedMachine$Runner" "PatchedMachine$Runner" "status" "I", .lays "PatchedMachine$Runner" "PatchedMachine$Runner" "result" "I", .methodLink "PatchedMachine$Runner" 113 y_U_end, .code y_U_end prog_10_method_4_code 2 none, .initialized "PatchedMachine$Runner", .instanceMethod y_U_end, .selects "PatchedMachine$Runner" y_U_end y_U_end, .fieldLink "PatchedMachine$Runner" 38 "PatchedMachine$Runner" "result" "I", .fieldLink "PatchedMachine$Runner" 11 "PatchedMachine$Runner" "frames" "[LPatchedMachine$Frame;", .fieldLinkNest "PatchedMachine$Runner" 119 "PatchedMachine$Routine" "result" "I" "PatchedMachine", .laysFinal "PatchedMachine$Routine" "PatchedMachine$Routine" "locals" "[I", .laysFinal "PatchedMachine$Routine" "PatchedMachine$Routine" "ops" "[I", .laysFinal "PatchedMachine$Routine" "PatchedMachine$Routine" "xs" "[I", .laysFinal "PatchedMachine$Routine" "PatchedMachine$Routine" "ys" "[I", .lays "PatchedMachine$Routine" "PatchedMachine$Routine" "parameters" "I", .lays "PatchedMachine$Routine" "PatchedMachine$Routine" "result" "I", .lays "PatchedMachine$Routine" "PatchedMachine$Routine" "length" "I", .methodLinkNest "PatchedMachine$Runner" 86 y_F_put "PatchedMachine", .code y_F_put prog_3_method_3_code 3 none, .instanceMethod y_F_put, .selects "PatchedMachine$Frame" y_F_put y_F_put]
set_option maxRecDepth 100000 in
theorem u_U_leave : ∀ w ∈ t_U_leave, w ∈ am_tb := am_subI [740, 743, 114, 742, 65, 355, 361, 363, 365, 367, 369, 371, 724, 727, 111, 726, 61, 359, 349, 184, 188, 190, 192, 194, 196, 198, 200, 732, 735, 734, 63] (by decide +kernel) (by decide +kernel)
set_option maxRecDepth 100000 in
theorem s_U_leave (l : Launch) : am_Sd l am_cl y_U_leave (am_ws y_U_leave prog_10_method_11_code 4 none) 1 22 f_U_leave :=
  am_meth (by decide +kernel) (Or.inr (Or.inr (Or.inl ⟨rfl, rfl⟩))) rfl (by decide) am_htc g_U_leave (am_ctx (cb := cb_U_leave) t_U_leave [(94, .invokevirtual 94), (113, .invokevirtual 113), (86, .invokevirtual 86)] "PatchedMachine" false [38, 31] [] u_U_leave rfl (by decide +kernel) (fun h => by cases h)
    (List.forall_mem_cons.mpr ⟨am_KVN (host := "PatchedMachine") (na := 0) u_U_leave (s_F_take l) rfl (by decide +kernel) (by decide +kernel), (List.forall_mem_cons.mpr ⟨am_KV (na := 1) u_U_leave (s_U_end l) rfl (by decide +kernel) (by decide +kernel), (List.forall_mem_cons.mpr ⟨am_KVN (host := "PatchedMachine") (na := 2) u_U_leave (s_F_put l) rfl (by decide +kernel) (by decide +kernel), (fun _ h => absurd h List.not_mem_nil)⟩)⟩)⟩) (fun x t h => by cases h) (by decide +kernel))
def t_U_stepElsewhere : List Jvm.Cond := [.fieldLinkNest "PatchedMachine$Runner" 55 "PatchedMachine$Frame" "place" "I" "PatchedMachine", .laysFinal "PatchedMachine$Frame" "PatchedMachine$Frame" "locals" "[I", .laysFinal "PatchedMachine$Frame" "PatchedMachine$Frame" "stack" "[I", .laysFinal "PatchedMachine$Frame" "PatchedMachine$Frame" "stackTypes" "[I", .lays "PatchedMachine$Frame" "PatchedMachine$Frame" "height" "I", .lays "PatchedMachine$Frame" "PatchedMachine$Frame" "method" "I", .lays "PatchedMachine$Frame" "PatchedMachine$Frame" "place" "I", .methodLinkNest "PatchedMachine$Runner" 94 y_F_take "PatchedMachine", .code y_F_take prog_3_method_4_code 1 (some .int), .initialized "PatchedMachine$Frame", .instanceMethod y_F_take, .selects "PatchedMachine$Frame" y_F_take y_F_take, .fieldLinkNest "PatchedMachine$Runner" 49 "PatchedMachine$Program" "routines" "[LPatchedMachine$Routine;" "PatchedMachine", .laysFinal "PatchedMachine$Program" "PatchedMachine$Program" "layouts" "[LPatchedMachine$Layout;", .laysFinal "PatchedMachine$Program" "PatchedMachine$Program" "routines" "[LPatchedMachine$Routine;", .lays "PatchedMachine$Program" "PatchedMachine$Program" "touchedClasses" "I", .lays "PatchedMachine$Program" "PatchedMachine$Program" "touchedMethods" "I", .lays "PatchedMachine$Program" "PatchedMachine$Program" "restrictedMethods" "I", .methodLink "PatchedMachine$Runner" 105 y_U_enter, .code y_U_enter prog_10_method_10_code 6 none, .initialized "PatchedMachine$Runner", .instanceMethod y_U_enter, .selects "PatchedMachine$Runner" y_U_enter y_U_enter, .fieldLinkNest "PatchedMachine$Runner" 46 "PatchedMachine$Frame" "method" "I" "PatchedMachine", .methodLink "PatchedMachine$Runner" 109 y_U_leave, .code y_U_leave prog_10_method_11_code 4 none, .instanceMethod y_U_leave, .selects "PatchedMachine$Runner" y_U_leave y_U_leave]
set_option maxRecDepth 100000 in
theorem u_U_stepElsewhere : ∀ w ∈ t_U_stepElsewhere, w ∈ am_tb := am_subI [334, 336, 338, 340, 342, 344, 346, 740, 743, 114, 742, 65, 211, 216, 218, 220, 222, 224, 769, 772, 111, 771, 71, 331, 773, 776, 775, 72] (by decide +kernel) (by decide +kernel)
set_option maxRecDepth 100000 in
theorem s_U_stepElsewhere (l : Launch) : am_Sd l am_cl y_U_stepElsewhere (am_ws y_U_stepElsewhere prog_10_method_9_code 5 none) 2 47 f_U_stepElsewhere :=
  am_meth (by decide +kernel) (Or.inr (Or.inr (Or.inl ⟨rfl, rfl⟩))) rfl (by decide) am_htc g_U_stepElsewhere (am_ctx (cb := cb_U_stepElsewhere) t_U_stepElsewhere [(94, .invokevirtual 94), (105, .invokevirtual 105), (109, .invokevirtual 109)] "PatchedMachine" false [55] [] u_U_stepElsewhere rfl (by decide +kernel) (fun h => by cases h)
    (List.forall_mem_cons.mpr ⟨am_KVN (host := "PatchedMachine") (na := 0) u_U_stepElsewhere (s_F_take l) rfl (by decide +kernel) (by decide +kernel), (List.forall_mem_cons.mpr ⟨am_KV (na := 3) u_U_stepElsewhere (s_U_enter l) rfl (by decide +kernel) (by decide +kernel), (List.forall_mem_cons.mpr ⟨am_KV (na := 2) u_U_stepElsewhere (s_U_leave l) rfl (by decide +kernel) (by decide +kernel), (fun _ h => absurd h List.not_mem_nil)⟩)⟩)⟩) (fun x t h => by cases h) (by decide +kernel))
def t_J_floorMod : List Jvm.Cond := []
set_option maxRecDepth 100000 in
theorem u_J_floorMod : ∀ w ∈ t_J_floorMod, w ∈ am_tb := am_subI [] (by decide +kernel) (by decide +kernel)
set_option maxRecDepth 100000 in
theorem s_J_floorMod (l : Launch) : am_Sd l am_cl y_J_floorMod (am_ws y_J_floorMod prog_13_method_50_code 3 (some .int)) 0 0 f_J_floorMod :=
  am_methF (by decide +kernel) (Or.inl ⟨rfl, rfl⟩) rfl (by decide) am_htc g_J_floorMod (am_ctx (cb := cb_J_floorMod) t_J_floorMod [] "PatchedMachine" false [] [] u_J_floorMod rfl (by decide +kernel) (fun h => by cases h)
    (fun _ h => absurd h List.not_mem_nil) (fun x t h => by cases h) (by decide +kernel))
def t_O_print : List Jvm.Cond := [.fieldLink "PatchedMachine$Printer" 9 "PatchedMachine$Printer" "kept" "[I", .laysFinal "PatchedMachine$Printer" "PatchedMachine$Printer" "kept" "[I", .lays "PatchedMachine$Printer" "PatchedMachine$Printer" "count" "I", .fieldLink "PatchedMachine$Printer" 15 "PatchedMachine$Printer" "count" "I", .methodLink "PatchedMachine$Printer" 19 y_J_floorMod, .code y_J_floorMod prog_13_method_50_code 3 (some .int), .initialized "java/lang/Math", .static y_J_floorMod]
set_option maxRecDepth 100000 in
theorem u_O_print : ∀ w ∈ t_O_print, w ∈ am_tb := am_subI [309, 312, 314, 310, 785, 787, 117, 786] (by decide +kernel) (by decide +kernel)
set_option maxRecDepth 100000 in
theorem s_O_print (l : Launch) : am_Sd l am_cl y_O_print (am_ws y_O_print prog_7_method_2_code 2 none) 1 22 f_O_print :=
  am_meth (by decide +kernel) (Or.inr (Or.inr (Or.inl ⟨rfl, rfl⟩))) rfl (by decide) am_htc g_O_print (am_ctx (cb := cb_O_print) t_O_print [(19, .invokestatic 19)] "PatchedMachine" false [15] [] u_O_print rfl (by decide +kernel) (fun h => by cases h)
    (List.forall_mem_cons.mpr ⟨am_KS (na := 2) u_O_print (s_J_floorMod l) (by decide +kernel) (by decide +kernel), (fun _ h => absurd h List.not_mem_nil)⟩) (fun x t h => by cases h) (by decide +kernel))
def t_U_calculate : List Jvm.Cond := [.methodLinkNest "PatchedMachine$Runner" 94 y_F_take "PatchedMachine", .code y_F_take prog_3_method_4_code 1 (some .int), .initialized "PatchedMachine$Frame", .instanceMethod y_F_take, .selects "PatchedMachine$Frame" y_F_take y_F_take, .methodLinkNest "PatchedMachine$Runner" 86 y_F_put "PatchedMachine", .code y_F_put prog_3_method_3_code 3 none, .instanceMethod y_F_put, .selects "PatchedMachine$Frame" y_F_put y_F_put]
set_option maxRecDepth 100000 in
theorem u_U_calculate : ∀ w ∈ t_U_calculate, w ∈ am_tb := am_subI [740, 743, 114, 742, 65, 732, 735, 734, 63] (by decide +kernel) (by decide +kernel)
set_option maxRecDepth 100000 in
theorem s_U_calculate (l : Launch) : am_Sd l am_cl y_U_calculate (am_ws y_U_calculate prog_10_method_8_code 4 none) 1 22 f_U_calculate :=
  am_meth (by decide +kernel) (Or.inr (Or.inr (Or.inl ⟨rfl, rfl⟩))) rfl (by decide) am_htc g_U_calculate (am_ctx (cb := cb_U_calculate) t_U_calculate [(94, .invokevirtual 94), (86, .invokevirtual 86)] "PatchedMachine" false [] [] u_U_calculate rfl (by decide +kernel) (fun h => by cases h)
    (List.forall_mem_cons.mpr ⟨am_KVN (host := "PatchedMachine") (na := 0) u_U_calculate (s_F_take l) rfl (by decide +kernel) (by decide +kernel), (List.forall_mem_cons.mpr ⟨am_KVN (host := "PatchedMachine") (na := 2) u_U_calculate (s_F_put l) rfl (by decide +kernel) (by decide +kernel), (fun _ h => absurd h List.not_mem_nil)⟩)⟩) (fun x t h => by cases h) (by decide +kernel))
def t_U_stepOnValues : List Jvm.Cond := [.methodLinkNest "PatchedMachine$Runner" 86 y_F_put "PatchedMachine", .code y_F_put prog_3_method_3_code 3 none, .initialized "PatchedMachine$Frame", .instanceMethod y_F_put, .selects "PatchedMachine$Frame" y_F_put y_F_put, .fieldLinkNest "PatchedMachine$Runner" 90 "PatchedMachine$Frame" "locals" "[I" "PatchedMachine", .laysFinal "PatchedMachine$Frame" "PatchedMachine$Frame" "locals" "[I", .laysFinal "PatchedMachine$Frame" "PatchedMachine$Frame" "stack" "[I", .laysFinal "PatchedMachine$Frame" "PatchedMachine$Frame" "stackTypes" "[I", .lays "PatchedMachine$Frame" "PatchedMachine$Frame" "height" "I", .lays "PatchedMachine$Frame" "PatchedMachine$Frame" "method" "I", .lays "PatchedMachine$Frame" "PatchedMachine$Frame" "place" "I", .fieldLinkNest "PatchedMachine$Runner" 93 "PatchedMachine$Routine" "locals" "[I" "PatchedMachine", .laysFinal "PatchedMachine$Routine" "PatchedMachine$Routine" "locals" "[I", .laysFinal "PatchedMachine$Routine" "PatchedMachine$Routine" "ops" "[I", .laysFinal "PatchedMachine$Routine" "PatchedMachine$Routine" "xs" "[I", .laysFinal "PatchedMachine$Routine" "PatchedMachine$Routine" "ys" "[I", .lays "PatchedMachine$Routine" "PatchedMachine$Routine" "parameters" "I", .lays "PatchedMachine$Routine" "PatchedMachine$Routine" "result" "I", .lays "PatchedMachine$Routine" "PatchedMachine$Routine" "length" "I", .methodLinkNest "PatchedMachine$Runner" 94 y_F_take "PatchedMachine", .code y_F_take prog_3_method_4_code 1 (some .int), .instanceMethod y_F_take, .selects "PatchedMachine$Frame" y_F_take y_F_take, .fieldLink "PatchedMachine$Runner" 27 "PatchedMachine$Runner" "printer" "LPatchedMachine$Printer;", .laysFinal "PatchedMachine$Runner" "PatchedMachine$Runner" "frames" "[LPatchedMachine$Frame;", .laysFinal "PatchedMachine$Runner" "PatchedMachine$Runner" "heap" "LPatchedMachine$Heap;", .laysFinal "PatchedMachine$Runner" "PatchedMachine$Runner" "printer" "LPatchedMachine$Printer;", .lays "PatchedMachine$Runner" "PatchedMachine$Runner" "depth" "I", .lays "PatchedMachine$Runner" "PatchedMachine$Runner" "status" "I", .lays "PatchedMachine$Runner" "PatchedMachine$Runner" "result" "I", .methodLinkNest "PatchedMachine$Runner" 98 y_O_print "PatchedMachine", .code y_O_print prog_7_method_2_code 2 none, .initialized "PatchedMachine$Printer", .instanceMethod y_O_print, .selects "PatchedMachine$Printer" y_O_print y_O_print, .methodLink "PatchedMachine$Runner" 101 y_U_calculate, .code y_U_calculate prog_10_method_8_code 4 none, .initialized "PatchedMachine$Runner", .static y_U_calculate]
set_option maxRecDepth 100000 in
theorem u_U_stepOnValues : ∀ w ∈ t_U_stepOnValues, w ∈ am_tb := am_subI [732, 735, 114, 734, 63, 323, 336, 338, 340, 342, 344, 346, 168, 188, 190, 192, 194, 196, 198, 200, 740, 743, 742, 65, 353, 361, 363, 365, 367, 369, 371, 781, 784, 113, 783, 74, 788, 790, 111, 789] (by decide +kernel) (by decide +kernel)
set_option maxRecDepth 100000 in
theorem s_U_stepOnValues (l : Launch) : am_Sd l am_cl y_U_stepOnValues (am_ws y_U_stepOnValues prog_10_method_7_code 5 none) 2 45 f_U_stepOnValues :=
  am_meth (by decide +kernel) (Or.inr (Or.inr (Or.inl ⟨rfl, rfl⟩))) rfl (by decide) am_htc g_U_stepOnValues (am_ctx (cb := cb_U_stepOnValues) t_U_stepOnValues [(86, .invokevirtual 86), (94, .invokevirtual 94), (98, .invokevirtual 98), (101, .invokestatic 101)] "PatchedMachine" false [] [] u_U_stepOnValues rfl (by decide +kernel) (fun h => by cases h)
    (List.forall_mem_cons.mpr ⟨am_KVN (host := "PatchedMachine") (na := 2) u_U_stepOnValues (s_F_put l) rfl (by decide +kernel) (by decide +kernel), (List.forall_mem_cons.mpr ⟨am_KVN (host := "PatchedMachine") (na := 0) u_U_stepOnValues (s_F_take l) rfl (by decide +kernel) (by decide +kernel), (List.forall_mem_cons.mpr ⟨am_KVN (host := "PatchedMachine") (na := 1) u_U_stepOnValues (s_O_print l) rfl (by decide +kernel) (by decide +kernel), (List.forall_mem_cons.mpr ⟨am_KS (na := 2) u_U_stepOnValues (s_U_calculate l) (by decide +kernel) (by decide +kernel), (fun _ h => absurd h List.not_mem_nil)⟩)⟩)⟩)⟩) (fun x t h => by cases h) (by decide +kernel))
def t_U_step : List Jvm.Cond := [.fieldLink "PatchedMachine$Runner" 31 "PatchedMachine$Runner" "depth" "I", .laysFinal "PatchedMachine$Runner" "PatchedMachine$Runner" "frames" "[LPatchedMachine$Frame;", .laysFinal "PatchedMachine$Runner" "PatchedMachine$Runner" "heap" "LPatchedMachine$Heap;", .laysFinal "PatchedMachine$Runner" "PatchedMachine$Runner" "printer" "LPatchedMachine$Printer;", .lays "PatchedMachine$Runner" "PatchedMachine$Runner" "depth" "I", .lays "PatchedMachine$Runner" "PatchedMachine$Runner" "status" "I", .lays "PatchedMachine$Runner" "PatchedMachine$Runner" "result" "I", .fieldLink "PatchedMachine$Runner" 11 "PatchedMachine$Runner" "frames" "[LPatchedMachine$Frame;", .fieldLinkNest "PatchedMachine$Runner" 49 "PatchedMachine$Program" "routines" "[LPatchedMachine$Routine;" "PatchedMachine", .laysFinal "PatchedMachine$Program" "PatchedMachine$Program" "layouts" "[LPatchedMachine$Layout;", .laysFinal "PatchedMachine$Program" "PatchedMachine$Program" "routines" "[LPatchedMachine$Routine;", .lays "PatchedMachine$Program" "PatchedMachine$Program" "touchedClasses" "I", .lays "PatchedMachine$Program" "PatchedMachine$Program" "touchedMethods" "I", .lays "PatchedMachine$Program" "PatchedMachine$Program" "restrictedMethods" "I", .fieldLinkNest "PatchedMachine$Runner" 46 "PatchedMachine$Frame" "method" "I" "PatchedMachine", .laysFinal "PatchedMachine$Frame" "PatchedMachine$Frame" "locals" "[I", .laysFinal "PatchedMachine$Frame" "PatchedMachine$Frame" "stack" "[I", .laysFinal "PatchedMachine$Frame" "PatchedMachine$Frame" "stackTypes" "[I", .lays "PatchedMachine$Frame" "PatchedMachine$Frame" "height" "I", .lays "PatchedMachine$Frame" "PatchedMachine$Frame" "method" "I", .lays "PatchedMachine$Frame" "PatchedMachine$Frame" "place" "I", .fieldLinkNest "PatchedMachine$Runner" 55 "PatchedMachine$Frame" "place" "I" "PatchedMachine", .methodLinkNest "PatchedMachine$Runner" 58 y_R_hasPlace "PatchedMachine", .code y_R_hasPlace prog_9_method_6_code 2 (some .boolean), .initialized "PatchedMachine$Routine", .instanceMethod y_R_hasPlace, .selects "PatchedMachine$Routine" y_R_hasPlace y_R_hasPlace, .fieldLinkNest "PatchedMachine$Runner" 64 "PatchedMachine$Routine" "ops" "[I" "PatchedMachine", .laysFinal "PatchedMachine$Routine" "PatchedMachine$Routine" "locals" "[I", .laysFinal "PatchedMachine$Routine" "PatchedMachine$Routine" "ops" "[I", .laysFinal "PatchedMachine$Routine" "PatchedMachine$Routine" "xs" "[I", .laysFinal "PatchedMachine$Routine" "PatchedMachine$Routine" "ys" "[I", .lays "PatchedMachine$Routine" "PatchedMachine$Routine" "parameters" "I", .lays "PatchedMachine$Routine" "PatchedMachine$Routine" "result" "I", .lays "PatchedMachine$Routine" "PatchedMachine$Routine" "length" "I", .fieldLinkNest "PatchedMachine$Runner" 68 "PatchedMachine$Routine" "xs" "[I" "PatchedMachine", .fieldLinkNest "PatchedMachine$Runner" 71 "PatchedMachine$Routine" "ys" "[I" "PatchedMachine", .methodLink "PatchedMachine$Runner" 74 y_U_stepOnObjects, .code y_U_stepOnObjects prog_10_method_12_code 6 none, .initialized "PatchedMachine$Runner", .instanceMethod y_U_stepOnObjects, .selects "PatchedMachine$Runner" y_U_stepOnObjects y_U_stepOnObjects, .methodLink "PatchedMachine$Runner" 78 y_U_stepElsewhere, .code y_U_stepElsewhere prog_10_method_9_code 5 none, .instanceMethod y_U_stepElsewhere, .selects "PatchedMachine$Runner" y_U_stepElsewhere y_U_stepElsewhere, .methodLink "PatchedMachine$Runner" 82 y_U_stepOnValues, .code y_U_stepOnValues prog_10_method_7_code 5 none, .instanceMethod y_U_stepOnValues, .selects "PatchedMachine$Runner" y_U_stepOnValues y_U_stepOnValues]
set_option maxRecDepth 100000 in
theorem u_U_step : ∀ w ∈ t_U_step, w ∈ am_tb := am_subI [355, 361, 363, 365, 367, 369, 371, 349, 211, 216, 218, 220, 222, 224, 331, 336, 338, 340, 342, 344, 346, 334, 710, 553, 108, 552, 27, 171, 188, 190, 192, 194, 196, 198, 200, 174, 177, 711, 714, 111, 713, 58, 765, 768, 767, 70, 777, 780, 779, 73] (by decide +kernel) (by decide +kernel)
set_option maxRecDepth 100000 in
theorem s_U_step (l : Launch) : am_Sd l am_cl y_U_step (am_ws y_U_step prog_10_method_6_code 6 none) 5 117 f_U_step :=
  am_meth (by decide +kernel) (Or.inr (Or.inr (Or.inl ⟨rfl, rfl⟩))) rfl (by decide) am_htc g_U_step (am_ctx (cb := cb_U_step) t_U_step [(58, .invokevirtual 58), (74, .invokevirtual 74), (78, .invokevirtual 78), (82, .invokevirtual 82)] "PatchedMachine" false [55] [] u_U_step rfl (by decide +kernel) (fun h => by cases h)
    (List.forall_mem_cons.mpr ⟨am_KVN (host := "PatchedMachine") (na := 1) u_U_step (s_R_hasPlace l) rfl (by decide +kernel) (by decide +kernel), (List.forall_mem_cons.mpr ⟨am_KV (na := 5) u_U_step (s_U_stepOnObjects l) rfl (by decide +kernel) (by decide +kernel), (List.forall_mem_cons.mpr ⟨am_KV (na := 4) u_U_step (s_U_stepElsewhere l) rfl (by decide +kernel) (by decide +kernel), (List.forall_mem_cons.mpr ⟨am_KV (na := 4) u_U_step (s_U_stepOnValues l) rfl (by decide +kernel) (by decide +kernel), (fun _ h => absurd h List.not_mem_nil)⟩)⟩)⟩)⟩) (fun x t h => by cases h) (by decide +kernel))
def t_X_run : List Jvm.Cond := [.fieldLink "PatchedMachine" 33 "PatchedMachine" "runner" "LPatchedMachine$Runner;", .laysFinal "PatchedMachine" "PatchedMachine" "draft" "LPatchedMachine$Program;", .laysFinal "PatchedMachine" "PatchedMachine" "line" "LPatchedMachine$PatchLine;", .laysFinal "PatchedMachine" "PatchedMachine" "checker" "LPatchedMachine$Checker;", .laysFinal "PatchedMachine" "PatchedMachine" "runner" "LPatchedMachine$Runner;", .lays "PatchedMachine" "PatchedMachine" "applied" "I", .lays "PatchedMachine" "PatchedMachine" "moved" "I", .methodLinkNest "PatchedMachine" 140 y_U_goesOn "PatchedMachine", .code y_U_goesOn prog_10_method_2_code 1 (some .boolean), .initialized "PatchedMachine$Runner", .instanceMethod y_U_goesOn, .selects "PatchedMachine$Runner" y_U_goesOn y_U_goesOn, .fieldLink "PatchedMachine" 19 "PatchedMachine" "line" "LPatchedMachine$PatchLine;", .methodLinkNest "PatchedMachine" 143 y_Q_present "PatchedMachine", .code y_Q_present prog_6_method_2_code 1 (some (.object "PatchedMachine$Program")), .initialized "PatchedMachine$PatchLine", .instanceMethod y_Q_present, .selects "PatchedMachine$PatchLine" y_Q_present y_Q_present, .methodLinkNest "PatchedMachine" 158 y_U_step "PatchedMachine", .code y_U_step prog_10_method_6_code 6 none, .instanceMethod y_U_step, .selects "PatchedMachine$Runner" y_U_step y_U_step, .methodLink "PatchedMachine" 128 y_X_applyWhatCan, .code y_X_applyWhatCan prog_1_method_22_code 3 none, .initialized "PatchedMachine", .instanceMethod y_X_applyWhatCan, .selects "PatchedMachine" y_X_applyWhatCan y_X_applyWhatCan]
set_option maxRecDepth 100000 in
theorem u_X_run : ∀ w ∈ t_X_run, w ∈ am_tb := am_subI [377, 380, 382, 384, 386, 388, 390, 689, 692, 111, 691, 54, 375, 622, 625, 109, 624, 44, 706, 709, 708, 57, 610, 613, 105, 612, 41] (by decide +kernel) (by decide +kernel)
set_option maxRecDepth 100000 in
theorem s_X_run (l : Launch) : am_Sd l am_cl y_X_run (am_ws y_X_run prog_1_method_13_code 3 (some .int)) 6 142 f_X_run :=
  am_meth (by decide +kernel) (Or.inl ⟨rfl, rfl⟩) rfl (by decide) am_htc g_X_run (am_ctx (cb := cb_X_run) t_X_run [(140, .invokevirtual 140), (143, .invokevirtual 143), (158, .invokevirtual 158), (128, .invokevirtual 128)] "PatchedMachine" false [] [] u_X_run rfl (by decide +kernel) (fun h => by cases h)
    (List.forall_mem_cons.mpr ⟨am_KVN (host := "PatchedMachine") (na := 0) u_X_run (s_U_goesOn l) rfl (by decide +kernel) (by decide +kernel), (List.forall_mem_cons.mpr ⟨am_KVN (host := "PatchedMachine") (na := 0) u_X_run (s_Q_present l) rfl (by decide +kernel) (by decide +kernel), (List.forall_mem_cons.mpr ⟨am_KVN (host := "PatchedMachine") (na := 1) u_X_run (s_U_step l) rfl (by decide +kernel) (by decide +kernel), (List.forall_mem_cons.mpr ⟨am_KV (na := 0) u_X_run (s_X_applyWhatCan l) rfl (by decide +kernel) (by decide +kernel), (fun _ h => absurd h List.not_mem_nil)⟩)⟩)⟩)⟩) (fun x t h => by cases h) (by decide +kernel))
def t_X_status : List Jvm.Cond := [.fieldLink "PatchedMachine" 33 "PatchedMachine" "runner" "LPatchedMachine$Runner;", .laysFinal "PatchedMachine" "PatchedMachine" "draft" "LPatchedMachine$Program;", .laysFinal "PatchedMachine" "PatchedMachine" "line" "LPatchedMachine$PatchLine;", .laysFinal "PatchedMachine" "PatchedMachine" "checker" "LPatchedMachine$Checker;", .laysFinal "PatchedMachine" "PatchedMachine" "runner" "LPatchedMachine$Runner;", .lays "PatchedMachine" "PatchedMachine" "applied" "I", .lays "PatchedMachine" "PatchedMachine" "moved" "I", .fieldLinkNest "PatchedMachine" 161 "PatchedMachine$Runner" "status" "I" "PatchedMachine", .laysFinal "PatchedMachine$Runner" "PatchedMachine$Runner" "frames" "[LPatchedMachine$Frame;", .laysFinal "PatchedMachine$Runner" "PatchedMachine$Runner" "heap" "LPatchedMachine$Heap;", .laysFinal "PatchedMachine$Runner" "PatchedMachine$Runner" "printer" "LPatchedMachine$Printer;", .lays "PatchedMachine$Runner" "PatchedMachine$Runner" "depth" "I", .lays "PatchedMachine$Runner" "PatchedMachine$Runner" "status" "I", .lays "PatchedMachine$Runner" "PatchedMachine$Runner" "result" "I"]
set_option maxRecDepth 100000 in
theorem u_X_status : ∀ w ∈ t_X_status, w ∈ am_tb := am_subI [377, 380, 382, 384, 386, 388, 390, 358, 361, 363, 365, 367, 369, 371] (by decide +kernel) (by decide +kernel)
set_option maxRecDepth 100000 in
theorem s_X_status (l : Launch) : am_Sd l am_cl y_X_status (am_ws y_X_status prog_1_method_14_code 1 (some .int)) 0 0 f_X_status :=
  am_meth (by decide +kernel) (Or.inl ⟨rfl, rfl⟩) rfl (by decide) am_htc g_X_status (am_ctx (cb := cb_X_status) t_X_status [] "PatchedMachine" false [] [] u_X_status rfl (by decide +kernel) (fun h => by cases h)
    (fun _ h => absurd h List.not_mem_nil) (fun x t h => by cases h) (by decide +kernel))
def t_X_result : List Jvm.Cond := [.fieldLink "PatchedMachine" 33 "PatchedMachine" "runner" "LPatchedMachine$Runner;", .laysFinal "PatchedMachine" "PatchedMachine" "draft" "LPatchedMachine$Program;", .laysFinal "PatchedMachine" "PatchedMachine" "line" "LPatchedMachine$PatchLine;", .laysFinal "PatchedMachine" "PatchedMachine" "checker" "LPatchedMachine$Checker;", .laysFinal "PatchedMachine" "PatchedMachine" "runner" "LPatchedMachine$Runner;", .lays "PatchedMachine" "PatchedMachine" "applied" "I", .lays "PatchedMachine" "PatchedMachine" "moved" "I", .fieldLinkNest "PatchedMachine" 164 "PatchedMachine$Runner" "result" "I" "PatchedMachine", .laysFinal "PatchedMachine$Runner" "PatchedMachine$Runner" "frames" "[LPatchedMachine$Frame;", .laysFinal "PatchedMachine$Runner" "PatchedMachine$Runner" "heap" "LPatchedMachine$Heap;", .laysFinal "PatchedMachine$Runner" "PatchedMachine$Runner" "printer" "LPatchedMachine$Printer;", .lays "PatchedMachine$Runner" "PatchedMachine$Runner" "depth" "I", .lays "PatchedMachine$Runner" "PatchedMachine$Runner" "status" "I", .lays "PatchedMachine$Runner" "PatchedMachine$Runner" "result" "I"]
set_option maxRecDepth 100000 in
theorem u_X_result : ∀ w ∈ t_X_result, w ∈ am_tb := am_subI [377, 380, 382, 384, 386, 388, 390, 360, 361, 363, 365, 367, 369, 371] (by decide +kernel) (by decide +kernel)
set_option maxRecDepth 100000 in
theorem s_X_result (l : Launch) : am_Sd l am_cl y_X_result (am_ws y_X_result prog_1_method_15_code 1 (some .int)) 0 0 f_X_result :=
  am_meth (by decide +kernel) (Or.inl ⟨rfl, rfl⟩) rfl (by decide) am_htc g_X_result (am_ctx (cb := cb_X_result) t_X_result [] "PatchedMachine" false [] [] u_X_result rfl (by decide +kernel) (fun h => by cases h)
    (fun _ h => absurd h List.not_mem_nil) (fun x t h => by cases h) (by decide +kernel))
def t_X_depth : List Jvm.Cond := [.fieldLink "PatchedMachine" 33 "PatchedMachine" "runner" "LPatchedMachine$Runner;", .laysFinal "PatchedMachine" "PatchedMachine" "draft" "LPatchedMachine$Program;", .laysFinal "PatchedMachine" "PatchedMachine" "line" "LPatchedMachine$PatchLine;", .laysFinal "PatchedMachine" "PatchedMachine" "checker" "LPatchedMachine$Checker;", .laysFinal "PatchedMachine" "PatchedMachine" "runner" "LPatchedMachine$Runner;", .lays "PatchedMachine" "PatchedMachine" "applied" "I", .lays "PatchedMachine" "PatchedMachine" "moved" "I", .fieldLinkNest "PatchedMachine" 165 "PatchedMachine$Runner" "depth" "I" "PatchedMachine", .laysFinal "PatchedMachine$Runner" "PatchedMachine$Runner" "frames" "[LPatchedMachine$Frame;", .laysFinal "PatchedMachine$Runner" "PatchedMachine$Runner" "heap" "LPatchedMachine$Heap;", .laysFinal "PatchedMachine$Runner" "PatchedMachine$Runner" "printer" "LPatchedMachine$Printer;", .lays "PatchedMachine$Runner" "PatchedMachine$Runner" "depth" "I", .lays "PatchedMachine$Runner" "PatchedMachine$Runner" "status" "I", .lays "PatchedMachine$Runner" "PatchedMachine$Runner" "result" "I"]
set_option maxRecDepth 100000 in
theorem u_X_depth : ∀ w ∈ t_X_depth, w ∈ am_tb := am_subI [377, 380, 382, 384, 386, 388, 390, 356, 361, 363, 365, 367, 369, 371] (by decide +kernel) (by decide +kernel)
set_option maxRecDepth 100000 in
theorem s_X_depth (l : Launch) : am_Sd l am_cl y_X_depth (am_ws y_X_depth prog_1_method_16_code 1 (some .int)) 0 0 f_X_depth :=
  am_meth (by decide +kernel) (Or.inl ⟨rfl, rfl⟩) rfl (by decide) am_htc g_X_depth (am_ctx (cb := cb_X_depth) t_X_depth [] "PatchedMachine" false [] [] u_X_depth rfl (by decide +kernel) (fun h => by cases h)
    (fun _ h => absurd h List.not_mem_nil) (fun x t h => by cases h) (by decide +kernel))
def t_X_frame : List Jvm.Cond := [.fieldLink "PatchedMachine" 33 "PatchedMachine" "runner" "LPatchedMachine$Runner;", .laysFinal "PatchedMachine" "PatchedMachine" "draft" "LPatchedMachine$Program;", .laysFinal "PatchedMachine" "PatchedMachine" "line" "LPatchedMachine$PatchLine;", .laysFinal "PatchedMachine" "PatchedMachine" "checker" "LPatchedMachine$Checker;", .laysFinal "PatchedMachine" "PatchedMachine" "runner" "LPatchedMachine$Runner;", .lays "PatchedMachine" "PatchedMachine" "applied" "I", .lays "PatchedMachine" "PatchedMachine" "moved" "I", .fieldLinkNest "PatchedMachine" 165 "PatchedMachine$Runner" "depth" "I" "PatchedMachine", .laysFinal "PatchedMachine$Runner" "PatchedMachine$Runner" "frames" "[LPatchedMachine$Frame;", .laysFinal "PatchedMachine$Runner" "PatchedMachine$Runner" "heap" "LPatchedMachine$Heap;", .laysFinal "PatchedMachine$Runner" "PatchedMachine$Runner" "printer" "LPatchedMachine$Printer;", .lays "PatchedMachine$Runner" "PatchedMachine$Runner" "depth" "I", .lays "PatchedMachine$Runner" "PatchedMachine$Runner" "status" "I", .lays "PatchedMachine$Runner" "PatchedMachine$Runner" "result" "I", .fieldLinkNest "PatchedMachine" 168 "PatchedMachine$Runner" "frames" "[LPatchedMachine$Frame;" "PatchedMachine", .fieldLinkNest "PatchedMachine" 172 "PatchedMachine$Frame" "method" "I" "PatchedMachine", .laysFinal "PatchedMachine$Frame" "PatchedMachine$Frame" "locals" "[I", .laysFinal "PatchedMachine$Frame" "PatchedMachine$Frame" "stack" "[I", .laysFinal "PatchedMachine$Frame" "PatchedMachine$Frame" "stackTypes" "[I", .lays "PatchedMachine$Frame" "PatchedMachine$Frame" "height" "I", .lays "PatchedMachine$Frame" "PatchedMachine$Frame" "method" "I", .lays "PatchedMachine$Frame" "PatchedMachine$Frame" "place" "I", .fieldLinkNest "PatchedMachine" 177 "PatchedMachine$Frame" "place" "I" "PatchedMachine"]
set_option maxRecDepth 100000 in
theorem u_X_frame : ∀ w ∈ t_X_frame, w ∈ am_tb := am_subI [377, 380, 382, 384, 386, 388, 390, 356, 361, 363, 365, 367, 369, 371, 350, 332, 336, 338, 340, 342, 344, 346, 335] (by decide +kernel) (by decide +kernel)
set_option maxRecDepth 100000 in
theorem s_X_frame (l : Launch) : am_Sd l am_cl y_X_frame (am_ws y_X_frame prog_1_method_17_code 3 (some .int)) 0 0 f_X_frame :=
  am_meth (by decide +kernel) (Or.inl ⟨rfl, rfl⟩) rfl (by decide) am_htc g_X_frame (am_ctx (cb := cb_X_frame) t_X_frame [] "PatchedMachine" false [] [] u_X_frame rfl (by decide +kernel) (fun h => by cases h)
    (fun _ h => absurd h List.not_mem_nil) (fun x t h => by cases h) (by decide +kernel))
def t_X_objects : List Jvm.Cond := [.fieldLink "PatchedMachine" 33 "PatchedMachine" "runner" "LPatchedMachine$Runner;", .laysFinal "PatchedMachine" "PatchedMachine" "draft" "LPatchedMachine$Program;", .laysFinal "PatchedMachine" "PatchedMachine" "line" "LPatchedMachine$PatchLine;", .laysFinal "PatchedMachine" "PatchedMachine" "checker" "LPatchedMachine$Checker;", .laysFinal "PatchedMachine" "PatchedMachine" "runner" "LPatchedMachine$Runner;", .lays "PatchedMachine" "PatchedMachine" "applied" "I", .lays "PatchedMachine" "PatchedMachine" "moved" "I", .fieldLinkNest "PatchedMachine" 180 "PatchedMachine$Runner" "heap" "LPatchedMachine$Heap;" "PatchedMachine", .laysFinal "PatchedMachine$Runner" "PatchedMachine$Runner" "frames" "[LPatchedMachine$Frame;", .laysFinal "PatchedMachine$Runner" "PatchedMachine$Runner" "heap" "LPatchedMachine$Heap;", .laysFinal "PatchedMachine$Runner" "PatchedMachine$Runner" "printer" "LPatchedMachine$Printer;", .lays "PatchedMachine$Runner" "PatchedMachine$Runner" "depth" "I", .lays "PatchedMachine$Runner" "PatchedMachine$Runner" "status" "I", .lays "PatchedMachine$Runner" "PatchedMachine$Runner" "result" "I", .fieldLinkNest "PatchedMachine" 184 "PatchedMachine$Heap" "count" "I" "PatchedMachine", .laysFinal "PatchedMachine$Heap" "PatchedMachine$Heap" "classes" "[I", .laysFinal "PatchedMachine$Heap" "PatchedMachine$Heap" "values" "[[I", .laysFinal "PatchedMachine$Heap" "PatchedMachine$Heap" "newValues" "[I", .laysFinal "PatchedMachine$Heap" "PatchedMachine$Heap" "isReached" "[Z", .laysFinal "PatchedMachine$Heap" "PatchedMachine$Heap" "reachedRows" "[I", .lays "PatchedMachine$Heap" "PatchedMachine$Heap" "reachedCount" "I", .lays "PatchedMachine$Heap" "PatchedMachine$Heap" "count" "I"]
set_option maxRecDepth 100000 in
theorem u_X_objects : ∀ w ∈ t_X_objects, w ∈ am_tb := am_subI [377, 380, 382, 384, 386, 388, 390, 352, 361, 363, 365, 367, 369, 371, 286, 287, 289, 291, 293, 295, 297, 299] (by decide +kernel) (by decide +kernel)
set_option maxRecDepth 100000 in
theorem s_X_objects (l : Launch) : am_Sd l am_cl y_X_objects (am_ws y_X_objects prog_1_method_18_code 1 (some .int)) 0 0 f_X_objects :=
  am_meth (by decide +kernel) (Or.inl ⟨rfl, rfl⟩) rfl (by decide) am_htc g_X_objects (am_ctx (cb := cb_X_objects) t_X_objects [] "PatchedMachine" false [] [] u_X_objects rfl (by decide +kernel) (fun h => by cases h)
    (fun _ h => absurd h List.not_mem_nil) (fun x t h => by cases h) (by decide +kernel))
def t_O_latestBut : List Jvm.Cond := [.fieldLink "PatchedMachine$Printer" 15 "PatchedMachine$Printer" "count" "I", .laysFinal "PatchedMachine$Printer" "PatchedMachine$Printer" "kept" "[I", .lays "PatchedMachine$Printer" "PatchedMachine$Printer" "count" "I", .fieldLink "PatchedMachine$Printer" 9 "PatchedMachine$Printer" "kept" "[I", .methodLink "PatchedMachine$Printer" 19 y_J_floorMod, .code y_J_floorMod prog_13_method_50_code 3 (some .int), .initialized "java/lang/Math", .static y_J_floorMod]
set_option maxRecDepth 100000 in
theorem u_O_latestBut : ∀ w ∈ t_O_latestBut, w ∈ am_tb := am_subI [310, 312, 314, 309, 785, 787, 117, 786] (by decide +kernel) (by decide +kernel)
set_option maxRecDepth 100000 in
theorem s_O_latestBut (l : Launch) : am_Sd l am_cl y_O_latestBut (am_ws y_O_latestBut prog_7_method_3_code 2 (some .int)) 1 22 f_O_latestBut :=
  am_meth (by decide +kernel) (Or.inl ⟨rfl, rfl⟩) rfl (by decide) am_htc g_O_latestBut (am_ctx (cb := cb_O_latestBut) t_O_latestBut [(19, .invokestatic 19)] "PatchedMachine" false [] [] u_O_latestBut rfl (by decide +kernel) (fun h => by cases h)
    (List.forall_mem_cons.mpr ⟨am_KS (na := 2) u_O_latestBut (s_J_floorMod l) (by decide +kernel) (by decide +kernel), (fun _ h => absurd h List.not_mem_nil)⟩) (fun x t h => by cases h) (by decide +kernel))
def t_X_output : List Jvm.Cond := [.fieldLink "PatchedMachine" 33 "PatchedMachine" "runner" "LPatchedMachine$Runner;", .laysFinal "PatchedMachine" "PatchedMachine" "draft" "LPatchedMachine$Program;", .laysFinal "PatchedMachine" "PatchedMachine" "line" "LPatchedMachine$PatchLine;", .laysFinal "PatchedMachine" "PatchedMachine" "checker" "LPatchedMachine$Checker;", .laysFinal "PatchedMachine" "PatchedMachine" "runner" "LPatchedMachine$Runner;", .lays "PatchedMachine" "PatchedMachine" "applied" "I", .lays "PatchedMachine" "PatchedMachine" "moved" "I", .fieldLinkNest "PatchedMachine" 189 "PatchedMachine$Runner" "printer" "LPatchedMachine$Printer;" "PatchedMachine", .laysFinal "PatchedMachine$Runner" "PatchedMachine$Runner" "frames" "[LPatchedMachine$Frame;", .laysFinal "PatchedMachine$Runner" "PatchedMachine$Runner" "heap" "LPatchedMachine$Heap;", .laysFinal "PatchedMachine$Runner" "PatchedMachine$Runner" "printer" "LPatchedMachine$Printer;", .lays "PatchedMachine$Runner" "PatchedMachine$Runner" "depth" "I", .lays "PatchedMachine$Runner" "PatchedMachine$Runner" "status" "I", .lays "PatchedMachine$Runner" "PatchedMachine$Runner" "result" "I", .methodLinkNest "PatchedMachine" 193 y_O_latestBut "PatchedMachine", .code y_O_latestBut prog_7_method_3_code 2 (some .int), .initialized "PatchedMachine$Printer", .instanceMethod y_O_latestBut, .selects "PatchedMachine$Printer" y_O_latestBut y_O_latestBut]
set_option maxRecDepth 100000 in
theorem u_X_output : ∀ w ∈ t_X_output, w ∈ am_tb := am_subI [377, 380, 382, 384, 386, 388, 390, 354, 361, 363, 365, 367, 369, 371, 815, 818, 113, 817, 75] (by decide +kernel) (by decide +kernel)
set_option maxRecDepth 100000 in
theorem s_X_output (l : Launch) : am_Sd l am_cl y_X_output (am_ws y_X_output prog_1_method_19_code 2 (some .int)) 2 43 f_X_output :=
  am_meth (by decide +kernel) (Or.inl ⟨rfl, rfl⟩) rfl (by decide) am_htc g_X_output (am_ctx (cb := cb_X_output) t_X_output [(193, .invokevirtual 193)] "PatchedMachine" false [] [] u_X_output rfl (by decide +kernel) (fun h => by cases h)
    (List.forall_mem_cons.mpr ⟨am_KVN (host := "PatchedMachine") (na := 1) u_X_output (s_O_latestBut l) rfl (by decide +kernel) (by decide +kernel), (fun _ h => absurd h List.not_mem_nil)⟩) (fun x t h => by cases h) (by decide +kernel))
def t_X_outputs : List Jvm.Cond := [.fieldLink "PatchedMachine" 33 "PatchedMachine" "runner" "LPatchedMachine$Runner;", .laysFinal "PatchedMachine" "PatchedMachine" "draft" "LPatchedMachine$Program;", .laysFinal "PatchedMachine" "PatchedMachine" "line" "LPatchedMachine$PatchLine;", .laysFinal "PatchedMachine" "PatchedMachine" "checker" "LPatchedMachine$Checker;", .laysFinal "PatchedMachine" "PatchedMachine" "runner" "LPatchedMachine$Runner;", .lays "PatchedMachine" "PatchedMachine" "applied" "I", .lays "PatchedMachine" "PatchedMachine" "moved" "I", .fieldLinkNest "PatchedMachine" 189 "PatchedMachine$Runner" "printer" "LPatchedMachine$Printer;" "PatchedMachine", .laysFinal "PatchedMachine$Runner" "PatchedMachine$Runner" "frames" "[LPatchedMachine$Frame;", .laysFinal "PatchedMachine$Runner" "PatchedMachine$Runner" "heap" "LPatchedMachine$Heap;", .laysFinal "PatchedMachine$Runner" "PatchedMachine$Runner" "printer" "LPatchedMachine$Printer;", .lays "PatchedMachine$Runner" "PatchedMachine$Runner" "depth" "I", .lays "PatchedMachine$Runner" "PatchedMachine$Runner" "status" "I", .lays "PatchedMachine$Runner" "PatchedMachine$Runner" "result" "I", .fieldLinkNest "PatchedMachine" 198 "PatchedMachine$Printer" "count" "I" "PatchedMachine", .laysFinal "PatchedMachine$Printer" "PatchedMachine$Printer" "kept" "[I", .lays "PatchedMachine$Printer" "PatchedMachine$Printer" "count" "I"]
set_option maxRecDepth 100000 in
theorem u_X_outputs : ∀ w ∈ t_X_outputs, w ∈ am_tb := am_subI [377, 380, 382, 384, 386, 388, 390, 354, 361, 363, 365, 367, 369, 371, 311, 312, 314] (by decide +kernel) (by decide +kernel)
set_option maxRecDepth 100000 in
theorem s_X_outputs (l : Launch) : am_Sd l am_cl y_X_outputs (am_ws y_X_outputs prog_1_method_20_code 1 (some .int)) 0 0 f_X_outputs :=
  am_meth (by decide +kernel) (Or.inl ⟨rfl, rfl⟩) rfl (by decide) am_htc g_X_outputs (am_ctx (cb := cb_X_outputs) t_X_outputs [] "PatchedMachine" false [] [] u_X_outputs rfl (by decide +kernel) (fun h => by cases h)
    (fun _ h => absurd h List.not_mem_nil) (fun x t h => by cases h) (by decide +kernel))
def t_X_shape : List Jvm.Cond := [.methodLink "PatchedMachine" 44 y_X_isClass, .code y_X_isClass prog_1_method_23_code 1 (some .boolean), .initialized "PatchedMachine", .static y_X_isClass, .fieldLink "PatchedMachine" 19 "PatchedMachine" "line" "LPatchedMachine$PatchLine;", .laysFinal "PatchedMachine" "PatchedMachine" "draft" "LPatchedMachine$Program;", .laysFinal "PatchedMachine" "PatchedMachine" "line" "LPatchedMachine$PatchLine;", .laysFinal "PatchedMachine" "PatchedMachine" "checker" "LPatchedMachine$Checker;", .laysFinal "PatchedMachine" "PatchedMachine" "runner" "LPatchedMachine$Runner;", .lays "PatchedMachine" "PatchedMachine" "applied" "I", .lays "PatchedMachine" "PatchedMachine" "moved" "I", .methodLinkNest "PatchedMachine" 143 y_Q_present "PatchedMachine", .code y_Q_present prog_6_method_2_code 1 (some (.object "PatchedMachine$Program")), .initialized "PatchedMachine$PatchLine", .instanceMethod y_Q_present, .selects "PatchedMachine$PatchLine" y_Q_present y_Q_present, .fieldLinkNest "PatchedMachine" 61 "PatchedMachine$Program" "layouts" "[LPatchedMachine$Layout;" "PatchedMachine", .laysFinal "PatchedMachine$Program" "PatchedMachine$Program" "layouts" "[LPatchedMachine$Layout;", .laysFinal "PatchedMachine$Program" "PatchedMachine$Program" "routines" "[LPatchedMachine$Routine;", .lays "PatchedMachine$Program" "PatchedMachine$Program" "touchedClasses" "I", .lays "PatchedMachine$Program" "PatchedMachine$Program" "touchedMethods" "I", .lays "PatchedMachine$Program" "PatchedMachine$Program" "restrictedMethods" "I", .fieldLinkNest "PatchedMachine" 199 "PatchedMachine$Layout" "size" "I" "PatchedMachine", .laysFinal "PatchedMachine$Layout" "PatchedMachine$Layout" "names" "[I", .laysFinal "PatchedMachine$Layout" "PatchedMachine$Layout" "types" "[I", .laysFinal "PatchedMachine$Layout" "PatchedMachine$Layout" "sources" "[I", .lays "PatchedMachine$Layout" "PatchedMachine$Layout" "size" "I", .fieldLinkNest "PatchedMachine" 202 "PatchedMachine$Layout" "names" "[I" "PatchedMachine", .fieldLinkNest "PatchedMachine" 206 "PatchedMachine$Layout" "types" "[I" "PatchedMachine"]
set_option maxRecDepth 100000 in
theorem u_X_shape : ∀ w ∈ t_X_shape, w ∈ am_tb := am_subI [397, 399, 105, 398, 375, 380, 382, 384, 386, 388, 390, 622, 625, 109, 624, 44, 204, 216, 218, 220, 222, 224, 150, 151, 153, 155, 157, 142, 145] (by decide +kernel) (by decide +kernel)
set_option maxRecDepth 100000 in
theorem s_X_shape (l : Launch) : am_Sd l am_cl y_X_shape (am_ws y_X_shape prog_1_method_21_code 4 (some .int)) 1 20 f_X_shape :=
  am_meth (by decide +kernel) (Or.inl ⟨rfl, rfl⟩) rfl (by decide) am_htc g_X_shape (am_ctx (cb := cb_X_shape) t_X_shape [(44, .invokestatic 44), (143, .invokevirtual 143)] "PatchedMachine" false [] [] u_X_shape rfl (by decide +kernel) (fun h => by cases h)
    (List.forall_mem_cons.mpr ⟨am_KS (na := 1) u_X_shape (s_X_isClass l) (by decide +kernel) (by decide +kernel), (List.forall_mem_cons.mpr ⟨am_KVN (host := "PatchedMachine") (na := 0) u_X_shape (s_Q_present l) rfl (by decide +kernel) (by decide +kernel), (fun _ h => absurd h List.not_mem_nil)⟩)⟩) (fun x t h => by cases h) (by decide +kernel))
def t_M_init : List Jvm.Cond := [.methodLink "PatchedMachineModel" 1 Lib.objectInit, .instanceMethod Lib.objectInit, .code Lib.objectInit ⟨#[0xb1]⟩ 1 none, .arrayClass .int, .fieldLink "PatchedMachineModel" 7 "PatchedMachineModel" "fields" "[I", .lays "PatchedMachineModel" "PatchedMachineModel" "fields" "[I", .lays "PatchedMachineModel" "PatchedMachineModel" "name" "[I", .lays "PatchedMachineModel" "PatchedMachineModel" "type" "[I", .lays "PatchedMachineModel" "PatchedMachineModel" "source" "[I", .lays "PatchedMachineModel" "PatchedMachineModel" "parameters" "[I", .lays "PatchedMachineModel" "PatchedMachineModel" "kinds" "[I", .lays "PatchedMachineModel" "PatchedMachineModel" "gives" "[I", .lays "PatchedMachineModel" "PatchedMachineModel" "length" "[I", .lays "PatchedMachineModel" "PatchedMachineModel" "op" "[I", .lays "PatchedMachineModel" "PatchedMachineModel" "x" "[I", .lays "PatchedMachineModel" "PatchedMachineModel" "y" "[I", .lays "PatchedMachineModel" "PatchedMachineModel" "classes" "[I", .lays "PatchedMachineModel" "PatchedMachineModel" "methods" "[I", .lays "PatchedMachineModel" "PatchedMachineModel" "barred" "[I", .lays "PatchedMachineModel" "PatchedMachineModel" "waits" "I", .lays "PatchedMachineModel" "PatchedMachineModel" "done" "I", .lays "PatchedMachineModel" "PatchedMachineModel" "moves" "I", .lays "PatchedMachineModel" "PatchedMachineModel" "seen" "[I", .lays "PatchedMachineModel" "PatchedMachineModel" "height" "I", .lays "PatchedMachineModel" "PatchedMachineModel" "status" "I", .lays "PatchedMachineModel" "PatchedMachineModel" "result" "I", .lays "PatchedMachineModel" "PatchedMachineModel" "frames" "I", .lays "PatchedMachineModel" "PatchedMachineModel" "method" "[I", .lays "PatchedMachineModel" "PatchedMachineModel" "place" "[I", .lays "PatchedMachineModel" "PatchedMachineModel" "locals" "[I", .lays "PatchedMachineModel" "PatchedMachineModel" "stack" "[I", .lays "PatchedMachineModel" "PatchedMachineModel" "sort" "[I", .lays "PatchedMachineModel" "PatchedMachineModel" "top" "[I", .lays "PatchedMachineModel" "PatchedMachineModel" "made" "[I", .lays "PatchedMachineModel" "PatchedMachineModel" "held" "[I", .lays "PatchedMachineModel" "PatchedMachineModel" "led" "[Z", .lays "PatchedMachineModel" "PatchedMachineModel" "fresh" "[I", .lays "PatchedMachineModel" "PatchedMachineModel" "out" "[I", .lays "PatchedMachineModel" "PatchedMachineModel" "outs" "I", .fieldLink "PatchedMachineModel" 13 "PatchedMachineModel" "name" "[I", .fieldLink "PatchedMachineModel" 16 "PatchedMachineModel" "type" "[I", .fieldLink "PatchedMachineModel" 19 "PatchedMachineModel" "source" "[I", .fieldLink "PatchedMachineModel" 22 "PatchedMachineModel" "parameters" "[I", .fieldLink "PatchedMachineModel" 25 "PatchedMachineModel" "kinds" "[I", .fieldLink "PatchedMachineModel" 28 "PatchedMachineModel" "gives" "[I", .fieldLink "PatchedMachineModel" 31 "PatchedMachineModel" "length" "[I", .fieldLink "PatchedMachineModel" 34 "PatchedMachineModel" "op" "[I", .fieldLink "PatchedMachineModel" 37 "PatchedMachineModel" "x" "[I", .fieldLink "PatchedMachineModel" 40 "PatchedMachineModel" "y" "[I", .fieldLink "PatchedMachineModel" 43 "PatchedMachineModel" "classes" "[I", .fieldLink "PatchedMachineModel" 46 "PatchedMachineModel" "methods" "[I", .fieldLink "PatchedMachineModel" 49 "PatchedMachineModel" "barred" "[I", .fieldLink "PatchedMachineModel" 52 "PatchedMachineModel" "seen" "[I", .fieldLink "PatchedMachineModel" 55 "PatchedMachineModel" "method" "[I", .fieldLink "PatchedMachineModel" 58 "PatchedMachineModel" "place" "[I", .fieldLink "PatchedMachineModel" 61 "PatchedMachineModel" "locals" "[I", .fieldLink "PatchedMachineModel" 64 "PatchedMachineModel" "stack" "[I", .fieldLink "PatchedMachineModel" 67 "PatchedMachineModel" "sort" "[I", .fieldLink "PatchedMachineModel" 70 "PatchedMachineModel" "top" "[I", .fieldLink "PatchedMachineModel" 73 "PatchedMachineModel" "made" "[I", .fieldLink "PatchedMachineModel" 76 "PatchedMachineModel" "held" "[I", .arrayClass .boolean, .fieldLink "PatchedMachineModel" 79 "PatchedMachineModel" "led" "[Z", .fieldLink "PatchedMachineModel" 83 "PatchedMachineModel" "fresh" "[I", .fieldLink "PatchedMachineModel" 86 "PatchedMachineModel" "out" "[I"]
set_option maxRecDepth 100000 in
theorem u_M_init : ∀ w ∈ t_M_init, w ∈ am_tb := am_subI [832, 124, 125, 160, 833, 867, 869, 871, 873, 875, 877, 879, 881, 883, 885, 887, 889, 891, 893, 895, 897, 899, 901, 903, 905, 907, 909, 911, 913, 915, 917, 919, 921, 923, 925, 927, 929, 931, 933, 834, 835, 836, 837, 838, 839, 840, 841, 842, 843, 844, 845, 846, 850, 855, 856, 857, 858, 859, 860, 861, 862, 302, 863, 864, 865] (by decide +kernel) (by decide +kernel)
set_option maxRecDepth 100000 in
theorem s_M_init (l : Launch) : am_Sd l am_cl y_M_init (am_ws y_M_init prog_12_method_1_code 1 none) 1 20 f_M_init :=
  am_meth (by decide +kernel) (Or.inr (Or.inr (Or.inl ⟨rfl, rfl⟩))) rfl (by decide) am_htc g_M_init (am_ctx (cb := cb_M_init) t_M_init [(1, .invokespecial 1)] "PatchedMachine" true [7, 13, 16, 19, 22, 25, 28, 31, 34, 37, 40, 43, 46, 49, 52, 55, 58, 61, 64, 67, 70, 73, 76, 79, 83, 86] [] u_M_init rfl (by decide +kernel) (fun _ => rfl)
    (List.forall_mem_cons.mpr ⟨am_KO u_M_init (by decide +kernel) (by decide +kernel), (fun _ h => absurd h List.not_mem_nil)⟩) (fun x t h => by cases h) (by decide +kernel))
def t_M_in : List Jvm.Cond := []
set_option maxRecDepth 100000 in
theorem u_M_in : ∀ w ∈ t_M_in, w ∈ am_tb := am_subI [] (by decide +kernel) (by decide +kernel)
set_option maxRecDepth 100000 in
theorem s_M_in (l : Launch) : am_Sd l am_cl y_M_in (am_ws y_M_in prog_12_method_2_code 3 (some .boolean)) 0 0 f_M_in :=
  am_meth (by decide +kernel) (Or.inr (Or.inl ⟨rfl, rfl⟩)) rfl (by decide) am_htc g_M_in (am_ctx (cb := cb_M_in) t_M_in [] "PatchedMachine" false [] [] u_M_in rfl (by decide +kernel) (fun h => by cases h)
    (fun _ h => absurd h List.not_mem_nil) (fun x t h => by cases h) (by decide +kernel))
def t_M_layout : List Jvm.Cond := [.methodLink "PatchedMachineModel" 89 y_M_in, .code y_M_in prog_12_method_2_code 3 (some .boolean), .initialized "PatchedMachineModel", .static y_M_in, .fieldLink "PatchedMachineModel" 7 "PatchedMachineModel" "fields" "[I", .lays "PatchedMachineModel" "PatchedMachineModel" "fields" "[I", .lays "PatchedMachineModel" "PatchedMachineModel" "name" "[I", .lays "PatchedMachineModel" "PatchedMachineModel" "type" "[I", .lays "PatchedMachineModel" "PatchedMachineModel" "source" "[I", .lays "PatchedMachineModel" "PatchedMachineModel" "parameters" "[I", .lays "PatchedMachineModel" "PatchedMachineModel" "kinds" "[I", .lays "PatchedMachineModel" "PatchedMachineModel" "gives" "[I", .lays "PatchedMachineModel" "PatchedMachineModel" "length" "[I", .lays "PatchedMachineModel" "PatchedMachineModel" "op" "[I", .lays "PatchedMachineModel" "PatchedMachineModel" "x" "[I", .lays "PatchedMachineModel" "PatchedMachineModel" "y" "[I", .lays "PatchedMachineModel" "PatchedMachineModel" "classes" "[I", .lays "PatchedMachineModel" "PatchedMachineModel" "methods" "[I", .lays "PatchedMachineModel" "PatchedMachineModel" "barred" "[I", .lays "PatchedMachineModel" "PatchedMachineModel" "waits" "I", .lays "PatchedMachineModel" "PatchedMachineModel" "done" "I", .lays "PatchedMachineModel" "PatchedMachineModel" "moves" "I", .lays "PatchedMachineModel" "PatchedMachineModel" "seen" "[I", .lays "PatchedMachineModel" "PatchedMachineModel" "height" "I", .lays "PatchedMachineModel" "PatchedMachineModel" "status" "I", .lays "PatchedMachineModel" "PatchedMachineModel" "result" "I", .lays "PatchedMachineModel" "PatchedMachineModel" "frames" "I", .lays "PatchedMachineModel" "PatchedMachineModel" "method" "[I", .lays "PatchedMachineModel" "PatchedMachineModel" "place" "[I", .lays "PatchedMachineModel" "PatchedMachineModel" "locals" "[I", .lays "PatchedMachineModel" "PatchedMachineModel" "stack" "[I", .lays "PatchedMachineModel" "PatchedMachineModel" "sort" "[I", .lays "PatchedMachineModel" "PatchedMachineModel" "top" "[I", .lays "PatchedMachineModel" "PatchedMachineModel" "made" "[I", .lays "PatchedMachineModel" "PatchedMachineModel" "held" "[I", .lays "PatchedMachineModel" "PatchedMachineModel" "led" "[Z", .lays "PatchedMachineModel" "PatchedMachineModel" "fresh" "[I", .lays "PatchedMachineModel" "PatchedMachineModel" "out" "[I", .lays "PatchedMachineModel" "PatchedMachineModel" "outs" "I", .fieldLink "PatchedMachineModel" 43 "PatchedMachineModel" "classes" "[I"]
set_option maxRecDepth 100000 in
theorem u_M_layout : ∀ w ∈ t_M_layout, w ∈ am_tb := am_subI [940, 942, 115, 941, 833, 867, 869, 871, 873, 875, 877, 879, 881, 883, 885, 887, 889, 891, 893, 895, 897, 899, 901, 903, 905, 907, 909, 911, 913, 915, 917, 919, 921, 923, 925, 927, 929, 931, 933, 844] (by decide +kernel) (by decide +kernel)
set_option maxRecDepth 100000 in
theorem s_M_layout (l : Launch) : am_Sd l am_cl y_M_layout (am_ws y_M_layout prog_12_method_6_code 2 (some .boolean)) 1 22 f_M_layout :=
  am_meth (by decide +kernel) (Or.inr (Or.inl ⟨rfl, rfl⟩)) rfl (by decide) am_htc g_M_layout (am_ctx (cb := cb_M_layout) t_M_layout [(89, .invokestatic 89)] "PatchedMachine" false [] [] u_M_layout rfl (by decide +kernel) (fun h => by cases h)
    (List.forall_mem_cons.mpr ⟨am_KS (na := 3) u_M_layout (s_M_in l) (by decide +kernel) (by decide +kernel), (fun _ h => absurd h List.not_mem_nil)⟩) (fun x t h => by cases h) (by decide +kernel))
def t_M_find : List Jvm.Cond := [.fieldLink "PatchedMachineModel" 7 "PatchedMachineModel" "fields" "[I", .lays "PatchedMachineModel" "PatchedMachineModel" "fields" "[I", .lays "PatchedMachineModel" "PatchedMachineModel" "name" "[I", .lays "PatchedMachineModel" "PatchedMachineModel" "type" "[I", .lays "PatchedMachineModel" "PatchedMachineModel" "source" "[I", .lays "PatchedMachineModel" "PatchedMachineModel" "parameters" "[I", .lays "PatchedMachineModel" "PatchedMachineModel" "kinds" "[I", .lays "PatchedMachineModel" "PatchedMachineModel" "gives" "[I", .lays "PatchedMachineModel" "PatchedMachineModel" "length" "[I", .lays "PatchedMachineModel" "PatchedMachineModel" "op" "[I", .lays "PatchedMachineModel" "PatchedMachineModel" "x" "[I", .lays "PatchedMachineModel" "PatchedMachineModel" "y" "[I", .lays "PatchedMachineModel" "PatchedMachineModel" "classes" "[I", .lays "PatchedMachineModel" "PatchedMachineModel" "methods" "[I", .lays "PatchedMachineModel" "PatchedMachineModel" "barred" "[I", .lays "PatchedMachineModel" "PatchedMachineModel" "waits" "I", .lays "PatchedMachineModel" "PatchedMachineModel" "done" "I", .lays "PatchedMachineModel" "PatchedMachineModel" "moves" "I", .lays "PatchedMachineModel" "PatchedMachineModel" "seen" "[I", .lays "PatchedMachineModel" "PatchedMachineModel" "height" "I", .lays "PatchedMachineModel" "PatchedMachineModel" "status" "I", .lays "PatchedMachineModel" "PatchedMachineModel" "result" "I", .lays "PatchedMachineModel" "PatchedMachineModel" "frames" "I", .lays "PatchedMachineModel" "PatchedMachineModel" "method" "[I", .lays "PatchedMachineModel" "PatchedMachineModel" "place" "[I", .lays "PatchedMachineModel" "PatchedMachineModel" "locals" "[I", .lays "PatchedMachineModel" "PatchedMachineModel" "stack" "[I", .lays "PatchedMachineModel" "PatchedMachineModel" "sort" "[I", .lays "PatchedMachineModel" "PatchedMachineModel" "top" "[I", .lays "PatchedMachineModel" "PatchedMachineModel" "made" "[I", .lays "PatchedMachineModel" "PatchedMachineModel" "held" "[I", .lays "PatchedMachineModel" "PatchedMachineModel" "led" "[Z", .lays "PatchedMachineModel" "PatchedMachineModel" "fresh" "[I", .lays "PatchedMachineModel" "PatchedMachineModel" "out" "[I", .lays "PatchedMachineModel" "PatchedMachineModel" "outs" "I", .fieldLink "PatchedMachineModel" 13 "PatchedMachineModel" "name" "[I"]
set_option maxRecDepth 100000 in
theorem u_M_find : ∀ w ∈ t_M_find, w ∈ am_tb := am_subI [833, 867, 869, 871, 873, 875, 877, 879, 881, 883, 885, 887, 889, 891, 893, 895, 897, 899, 901, 903, 905, 907, 909, 911, 913, 915, 917, 919, 921, 923, 925, 927, 929, 931, 933, 834] (by decide +kernel) (by decide +kernel)
set_option maxRecDepth 100000 in
theorem s_M_find (l : Launch) : am_Sd l am_cl y_M_find (am_ws y_M_find prog_12_method_4_code 5 (some .int)) 0 0 f_M_find :=
  am_meth (by decide +kernel) (Or.inl ⟨rfl, rfl⟩) rfl (by decide) am_htc g_M_find (am_ctx (cb := cb_M_find) t_M_find [] "PatchedMachine" false [] [] u_M_find rfl (by decide +kernel) (fun h => by cases h)
    (fun _ h => absurd h List.not_mem_nil) (fun x t h => by cases h) (by decide +kernel))
end
section
/-! printed by gen.py: contracts -/
def t_M_typeOf : List Jvm.Cond := [.fieldLink "PatchedMachineModel" 16 "PatchedMachineModel" "type" "[I", .lays "PatchedMachineModel" "PatchedMachineModel" "fields" "[I", .lays "PatchedMachineModel" "PatchedMachineModel" "name" "[I", .lays "PatchedMachineModel" "PatchedMachineModel" "type" "[I", .lays "PatchedMachineModel" "PatchedMachineModel" "source" "[I", .lays "PatchedMachineModel" "PatchedMachineModel" "parameters" "[I", .lays "PatchedMachineModel" "PatchedMachineModel" "kinds" "[I", .lays "PatchedMachineModel" "PatchedMachineModel" "gives" "[I", .lays "PatchedMachineModel" "PatchedMachineModel" "length" "[I", .lays "PatchedMachineModel" "PatchedMachineModel" "op" "[I", .lays "PatchedMachineModel" "PatchedMachineModel" "x" "[I", .lays "PatchedMachineModel" "PatchedMachineModel" "y" "[I", .lays "PatchedMachineModel" "PatchedMachineModel" "classes" "[I", .lays "PatchedMachineModel" "PatchedMachineModel" "methods" "[I", .lays "PatchedMachineModel" "PatchedMachineModel" "barred" "[I", .lays "PatchedMachineModel" "PatchedMachineModel" "waits" "I", .lays "PatchedMachineModel" "PatchedMachineModel" "done" "I", .lays "PatchedMachineModel" "PatchedMachineModel" "moves" "I", .lays "PatchedMachineModel" "PatchedMachineModel" "seen" "[I", .lays "PatchedMachineModel" "PatchedMachineModel" "height" "I", .lays "PatchedMachineModel" "PatchedMachineModel" "status" "I", .lays "PatchedMachineModel" "PatchedMachineModel" "result" "I", .lays "PatchedMachineModel" "PatchedMachineModel" "frames" "I", .lays "PatchedMachineModel" "PatchedMachineModel" "method" "[I", .lays "PatchedMachineModel" "PatchedMachineModel" "place" "[I", .lays "PatchedMachineModel" "PatchedMachineModel" "locals" "[I", .lays "PatchedMachineModel" "PatchedMachineModel" "stack" "[I", .lays "PatchedMachineModel" "PatchedMachineModel" "sort" "[I", .lays "PatchedMachineModel" "PatchedMachineModel" "top" "[I", .lays "PatchedMachineModel" "PatchedMachineModel" "made" "[I", .lays "PatchedMachineModel" "PatchedMachineModel" "held" "[I", .lays "PatchedMachineModel" "PatchedMachineModel" "led" "[Z", .lays "PatchedMachineModel" "PatchedMachineModel" "fresh" "[I", .lays "PatchedMachineModel" "PatchedMachineModel" "out" "[I", .lays "PatchedMachineModel" "PatchedMachineModel" "outs" "I"]
set_option maxRecDepth 100000 in
theorem u_M_typeOf : ∀ w ∈ t_M_typeOf, w ∈ am_tb := am_subI [835, 867, 869, 871, 873, 875, 877, 879, 881, 883, 885, 887, 889, 891, 893, 895, 897, 899, 901, 903, 905, 907, 909, 911, 913, 915, 917, 919, 921, 923, 925, 927, 929, 931, 933] (by decide +kernel) (by decide +kernel)
set_option maxRecDepth 100000 in
theorem s_M_typeOf (l : Launch) : am_Sd l am_cl y_M_typeOf (am_ws y_M_typeOf prog_12_method_5_code 4 (some .int)) 0 0 f_M_typeOf :=
  am_meth (by decide +kernel) (Or.inl ⟨rfl, rfl⟩) rfl (by decide) am_htc g_M_typeOf (am_ctx (cb := cb_M_typeOf) t_M_typeOf [] "PatchedMachine" false [] [] u_M_typeOf rfl (by decide +kernel) (fun h => by cases h)
    (fun _ h => absurd h List.not_mem_nil) (fun x t h => by cases h) (by decide +kernel))
def t_M_field : List Jvm.Cond := [.methodLink "PatchedMachineModel" 89 y_M_in, .code y_M_in prog_12_method_2_code 3 (some .boolean), .initialized "PatchedMachineModel", .static y_M_in, .fieldLink "PatchedMachineModel" 43 "PatchedMachineModel" "classes" "[I", .lays "PatchedMachineModel" "PatchedMachineModel" "fields" "[I", .lays "PatchedMachineModel" "PatchedMachineModel" "name" "[I", .lays "PatchedMachineModel" "PatchedMachineModel" "type" "[I", .lays "PatchedMachineModel" "PatchedMachineModel" "source" "[I", .lays "PatchedMachineModel" "PatchedMachineModel" "parameters" "[I", .lays "PatchedMachineModel" "PatchedMachineModel" "kinds" "[I", .lays "PatchedMachineModel" "PatchedMachineModel" "gives" "[I", .lays "PatchedMachineModel" "PatchedMachineModel" "length" "[I", .lays "PatchedMachineModel" "PatchedMachineModel" "op" "[I", .lays "PatchedMachineModel" "PatchedMachineModel" "x" "[I", .lays "PatchedMachineModel" "PatchedMachineModel" "y" "[I", .lays "PatchedMachineModel" "PatchedMachineModel" "classes" "[I", .lays "PatchedMachineModel" "PatchedMachineModel" "methods" "[I", .lays "PatchedMachineModel" "PatchedMachineModel" "barred" "[I", .lays "PatchedMachineModel" "PatchedMachineModel" "waits" "I", .lays "PatchedMachineModel" "PatchedMachineModel" "done" "I", .lays "PatchedMachineModel" "PatchedMachineModel" "moves" "I", .lays "PatchedMachineModel" "PatchedMachineModel" "seen" "[I", .lays "PatchedMachineModel" "PatchedMachineModel" "height" "I", .lays "PatchedMachineModel" "PatchedMachineModel" "status" "I", .lays "PatchedMachineModel" "PatchedMachineModel" "result" "I", .lays "PatchedMachineModel" "PatchedMachineModel" "frames" "I", .lays "PatchedMachineModel" "PatchedMachineModel" "method" "[I", .lays "PatchedMachineModel" "PatchedMachineModel" "place" "[I", .lays "PatchedMachineModel" "PatchedMachineModel" "locals" "[I", .lays "PatchedMachineModel" "PatchedMachineModel" "stack" "[I", .lays "PatchedMachineModel" "PatchedMachineModel" "sort" "[I", .lays "PatchedMachineModel" "PatchedMachineModel" "top" "[I", .lays "PatchedMachineModel" "PatchedMachineModel" "made" "[I", .lays "PatchedMachineModel" "PatchedMachineModel" "held" "[I", .lays "PatchedMachineModel" "PatchedMachineModel" "led" "[Z", .lays "PatchedMachineModel" "PatchedMachineModel" "fresh" "[I", .lays "PatchedMachineModel" "PatchedMachineModel" "out" "[I", .lays "PatchedMachineModel" "PatchedMachineModel" "outs" "I", .fieldLink "PatchedMachineModel" 7 "PatchedMachineModel" "fields" "[I", .methodLink "PatchedMachineModel" 93 y_M_find, .code y_M_find prog_12_method_4_code 5 (some .int), .instanceMethod y_M_find, .selects "PatchedMachineModel" y_M_find y_M_find, .fieldLink "PatchedMachineModel" 97 "PatchedMachineModel" "waits" "I", .methodLink "PatchedMachineModel" 101 y_M_typeOf, .code y_M_typeOf prog_12_method_5_code 4 (some .int), .instanceMethod y_M_typeOf, .selects "PatchedMachineModel" y_M_typeOf y_M_typeOf, .fieldLink "PatchedMachineModel" 13 "PatchedMachineModel" "name" "[I", .fieldLink "PatchedMachineModel" 16 "PatchedMachineModel" "type" "[I", .fieldLink "PatchedMachineModel" 19 "PatchedMachineModel" "source" "[I"]
set_option maxRecDepth 100000 in
theorem u_M_field : ∀ w ∈ t_M_field, w ∈ am_tb := am_subI [940, 942, 115, 941, 844, 867, 869, 871, 873, 875, 877, 879, 881, 883, 885, 887, 889, 891, 893, 895, 897, 899, 901, 903, 905, 907, 909, 911, 913, 915, 917, 919, 921, 923, 925, 927, 929, 931, 933, 833, 947, 950, 949, 76, 847, 951, 954, 953, 77, 834, 835, 836] (by decide +kernel) (by decide +kernel)
set_option maxRecDepth 100000 in
theorem s_M_field (l : Launch) : am_Sd l am_cl y_M_field (am_ws y_M_field prog_12_method_7_code 7 (some .boolean)) 1 24 f_M_field :=
  am_meth (by decide +kernel) (Or.inr (Or.inl ⟨rfl, rfl⟩)) rfl (by decide) am_htc g_M_field (am_ctx (cb := cb_M_field) t_M_field [(89, .invokestatic 89), (93, .invokevirtual 93), (101, .invokevirtual 101)] "PatchedMachine" false [] [] u_M_field rfl (by decide +kernel) (fun h => by cases h)
    (List.forall_mem_cons.mpr ⟨am_KS (na := 3) u_M_field (s_M_in l) (by decide +kernel) (by decide +kernel), (List.forall_mem_cons.mpr ⟨am_KV (na := 3) u_M_field (s_M_find l) rfl (by decide +kernel) (by decide +kernel), (List.forall_mem_cons.mpr ⟨am_KV (na := 3) u_M_field (s_M_typeOf l) rfl (by decide +kernel) (by decide +kernel), (fun _ h => absurd h List.not_mem_nil)⟩)⟩)⟩) (fun x t h => by cases h) (by decide +kernel))
def t_M_head : List Jvm.Cond := [.methodLink "PatchedMachineModel" 89 y_M_in, .code y_M_in prog_12_method_2_code 3 (some .boolean), .initialized "PatchedMachineModel", .static y_M_in, .fieldLink "PatchedMachineModel" 22 "PatchedMachineModel" "parameters" "[I", .lays "PatchedMachineModel" "PatchedMachineModel" "fields" "[I", .lays "PatchedMachineModel" "PatchedMachineModel" "name" "[I", .lays "PatchedMachineModel" "PatchedMachineModel" "type" "[I", .lays "PatchedMachineModel" "PatchedMachineModel" "source" "[I", .lays "PatchedMachineModel" "PatchedMachineModel" "parameters" "[I", .lays "PatchedMachineModel" "PatchedMachineModel" "kinds" "[I", .lays "PatchedMachineModel" "PatchedMachineModel" "gives" "[I", .lays "PatchedMachineModel" "PatchedMachineModel" "length" "[I", .lays "PatchedMachineModel" "PatchedMachineModel" "op" "[I", .lays "PatchedMachineModel" "PatchedMachineModel" "x" "[I", .lays "PatchedMachineModel" "PatchedMachineModel" "y" "[I", .lays "PatchedMachineModel" "PatchedMachineModel" "classes" "[I", .lays "PatchedMachineModel" "PatchedMachineModel" "methods" "[I", .lays "PatchedMachineModel" "PatchedMachineModel" "barred" "[I", .lays "PatchedMachineModel" "PatchedMachineModel" "waits" "I", .lays "PatchedMachineModel" "PatchedMachineModel" "done" "I", .lays "PatchedMachineModel" "PatchedMachineModel" "moves" "I", .lays "PatchedMachineModel" "PatchedMachineModel" "seen" "[I", .lays "PatchedMachineModel" "PatchedMachineModel" "height" "I", .lays "PatchedMachineModel" "PatchedMachineModel" "status" "I", .lays "PatchedMachineModel" "PatchedMachineModel" "result" "I", .lays "PatchedMachineModel" "PatchedMachineModel" "frames" "I", .lays "PatchedMachineModel" "PatchedMachineModel" "method" "[I", .lays "PatchedMachineModel" "PatchedMachineModel" "place" "[I", .lays "PatchedMachineModel" "PatchedMachineModel" "locals" "[I", .lays "PatchedMachineModel" "PatchedMachineModel" "stack" "[I", .lays "PatchedMachineModel" "PatchedMachineModel" "sort" "[I", .lays "PatchedMachineModel" "PatchedMachineModel" "top" "[I", .lays "PatchedMachineModel" "PatchedMachineModel" "made" "[I", .lays "PatchedMachineModel" "PatchedMachineModel" "held" "[I", .lays "PatchedMachineModel" "PatchedMachineModel" "led" "[Z", .lays "PatchedMachineModel" "PatchedMachineModel" "fresh" "[I", .lays "PatchedMachineModel" "PatchedMachineModel" "out" "[I", .lays "PatchedMachineModel" "PatchedMachineModel" "outs" "I", .fieldLink "PatchedMachineModel" 25 "PatchedMachineModel" "kinds" "[I", .fieldLink "PatchedMachineModel" 28 "PatchedMachineModel" "gives" "[I", .fieldLink "PatchedMachineModel" 31 "PatchedMachineModel" "length" "[I", .fieldLink "PatchedMachineModel" 46 "PatchedMachineModel" "methods" "[I"]
set_option maxRecDepth 100000 in
theorem u_M_head : ∀ w ∈ t_M_head, w ∈ am_tb := am_subI [940, 942, 115, 941, 837, 867, 869, 871, 873, 875, 877, 879, 881, 883, 885, 887, 889, 891, 893, 895, 897, 899, 901, 903, 905, 907, 909, 911, 913, 915, 917, 919, 921, 923, 925, 927, 929, 931, 933, 838, 839, 840, 845] (by decide +kernel) (by decide +kernel)
set_option maxRecDepth 100000 in
theorem s_M_head (l : Launch) : am_Sd l am_cl y_M_head (am_ws y_M_head prog_12_method_8_code 6 (some .boolean)) 1 22 f_M_head :=
  am_meth (by decide +kernel) (Or.inr (Or.inl ⟨rfl, rfl⟩)) rfl (by decide) am_htc g_M_head (am_ctx (cb := cb_M_head) t_M_head [(89, .invokestatic 89)] "PatchedMachine" false [] [] u_M_head rfl (by decide +kernel) (fun h => by cases h)
    (List.forall_mem_cons.mpr ⟨am_KS (na := 3) u_M_head (s_M_in l) (by decide +kernel) (by decide +kernel), (fun _ h => absurd h List.not_mem_nil)⟩) (fun x t h => by cases h) (by decide +kernel))
def t_M_named : List Jvm.Cond := [.methodLink "PatchedMachineModel" 89 y_M_in, .code y_M_in prog_12_method_2_code 3 (some .boolean), .initialized "PatchedMachineModel", .static y_M_in]
set_option maxRecDepth 100000 in
theorem u_M_named : ∀ w ∈ t_M_named, w ∈ am_tb := am_subI [940, 942, 115, 941] (by decide +kernel) (by decide +kernel)
set_option maxRecDepth 100000 in
theorem s_M_named (l : Launch) : am_Sd l am_cl y_M_named (am_ws y_M_named prog_12_method_9_code 9 (some .boolean)) 1 22 f_M_named :=
  am_meth (by decide +kernel) (Or.inr (Or.inl ⟨rfl, rfl⟩)) rfl (by decide) am_htc g_M_named (am_ctx (cb := cb_M_named) t_M_named [(89, .invokestatic 89)] "PatchedMachine" false [] [] u_M_named rfl (by decide +kernel) (fun h => by cases h)
    (List.forall_mem_cons.mpr ⟨am_KS (na := 3) u_M_named (s_M_in l) (by decide +kernel) (by decide +kernel), (fun _ h => absurd h List.not_mem_nil)⟩) (fun x t h => by cases h) (by decide +kernel))
def t_M_code : List Jvm.Cond := [.methodLink "PatchedMachineModel" 89 y_M_in, .code y_M_in prog_12_method_2_code 3 (some .boolean), .initialized "PatchedMachineModel", .static y_M_in, .fieldLink "PatchedMachineModel" 46 "PatchedMachineModel" "methods" "[I", .lays "PatchedMachineModel" "PatchedMachineModel" "fields" "[I", .lays "PatchedMachineModel" "PatchedMachineModel" "name" "[I", .lays "PatchedMachineModel" "PatchedMachineModel" "type" "[I", .lays "PatchedMachineModel" "PatchedMachineModel" "source" "[I", .lays "PatchedMachineModel" "PatchedMachineModel" "parameters" "[I", .lays "PatchedMachineModel" "PatchedMachineModel" "kinds" "[I", .lays "PatchedMachineModel" "PatchedMachineModel" "gives" "[I", .lays "PatchedMachineModel" "PatchedMachineModel" "length" "[I", .lays "PatchedMachineModel" "PatchedMachineModel" "op" "[I", .lays "PatchedMachineModel" "PatchedMachineModel" "x" "[I", .lays "PatchedMachineModel" "PatchedMachineModel" "y" "[I", .lays "PatchedMachineModel" "PatchedMachineModel" "classes" "[I", .lays "PatchedMachineModel" "PatchedMachineModel" "methods" "[I", .lays "PatchedMachineModel" "PatchedMachineModel" "barred" "[I", .lays "PatchedMachineModel" "PatchedMachineModel" "waits" "I", .lays "PatchedMachineModel" "PatchedMachineModel" "done" "I", .lays "PatchedMachineModel" "PatchedMachineModel" "moves" "I", .lays "PatchedMachineModel" "PatchedMachineModel" "seen" "[I", .lays "PatchedMachineModel" "PatchedMachineModel" "height" "I", .lays "PatchedMachineModel" "PatchedMachineModel" "status" "I", .lays "PatchedMachineModel" "PatchedMachineModel" "result" "I", .lays "PatchedMachineModel" "PatchedMachineModel" "frames" "I", .lays "PatchedMachineModel" "PatchedMachineModel" "method" "[I", .lays "PatchedMachineModel" "PatchedMachineModel" "place" "[I", .lays "PatchedMachineModel" "PatchedMachineModel" "locals" "[I", .lays "PatchedMachineModel" "PatchedMachineModel" "stack" "[I", .lays "PatchedMachineModel" "PatchedMachineModel" "sort" "[I", .lays "PatchedMachineModel" "PatchedMachineModel" "top" "[I", .lays "PatchedMachineModel" "PatchedMachineModel" "made" "[I", .lays "PatchedMachineModel" "PatchedMachineModel" "held" "[I", .lays "PatchedMachineModel" "PatchedMachineModel" "led" "[Z", .lays "PatchedMachineModel" "PatchedMachineModel" "fresh" "[I", .lays "PatchedMachineModel" "PatchedMachineModel" "out" "[I", .lays "PatchedMachineModel" "PatchedMachineModel" "outs" "I", .fieldLink "PatchedMachineModel" 31 "PatchedMachineModel" "length" "[I", .methodLink "PatchedMachineModel" 104 y_M_named, .code y_M_named prog_12_method_9_code 9 (some .boolean), .static y_M_named, .fieldLink "PatchedMachineModel" 34 "PatchedMachineModel" "op" "[I", .fieldLink "PatchedMachineModel" 37 "PatchedMachineModel" "x" "[I", .fieldLink "PatchedMachineModel" 40 "PatchedMachineModel" "y" "[I"]
set_option maxRecDepth 100000 in
theorem u_M_code : ∀ w ∈ t_M_code, w ∈ am_tb := am_subI [940, 942, 115, 941, 845, 867, 869, 871, 873, 875, 877, 879, 881, 883, 885, 887, 889, 891, 893, 895, 897, 899, 901, 903, 905, 907, 909, 911, 913, 915, 917, 919, 921, 923, 925, 927, 929, 931, 933, 840, 963, 965, 964, 841, 842, 843] (by decide +kernel) (by decide +kernel)
set_option maxRecDepth 100000 in
theorem s_M_code (l : Launch) : am_Sd l am_cl y_M_code (am_ws y_M_code prog_12_method_10_code 6 (some .boolean)) 2 50 f_M_code :=
  am_meth (by decide +kernel) (Or.inr (Or.inl ⟨rfl, rfl⟩)) rfl (by decide) am_htc g_M_code (am_ctx (cb := cb_M_code) t_M_code [(89, .invokestatic 89), (104, .invokestatic 104)] "PatchedMachine" false [] [] u_M_code rfl (by decide +kernel) (fun h => by cases h)
    (List.forall_mem_cons.mpr ⟨am_KS (na := 3) u_M_code (s_M_in l) (by decide +kernel) (by decide +kernel), (List.forall_mem_cons.mpr ⟨am_KS (na := 3) u_M_code (s_M_named l) (by decide +kernel) (by decide +kernel), (fun _ h => absurd h List.not_mem_nil)⟩)⟩) (fun x t h => by cases h) (by decide +kernel))
def t_M_copy : List Jvm.Cond := [.fieldLink "PatchedMachineModel" 7 "PatchedMachineModel" "fields" "[I", .lays "PatchedMachineModel" "PatchedMachineModel" "fields" "[I", .lays "PatchedMachineModel" "PatchedMachineModel" "name" "[I", .lays "PatchedMachineModel" "PatchedMachineModel" "type" "[I", .lays "PatchedMachineModel" "PatchedMachineModel" "source" "[I", .lays "PatchedMachineModel" "PatchedMachineModel" "parameters" "[I", .lays "PatchedMachineModel" "PatchedMachineModel" "kinds" "[I", .lays "PatchedMachineModel" "PatchedMachineModel" "gives" "[I", .lays "PatchedMachineModel" "PatchedMachineModel" "length" "[I", .lays "PatchedMachineModel" "PatchedMachineModel" "op" "[I", .lays "PatchedMachineModel" "PatchedMachineModel" "x" "[I", .lays "PatchedMachineModel" "PatchedMachineModel" "y" "[I", .lays "PatchedMachineModel" "PatchedMachineModel" "classes" "[I", .lays "PatchedMachineModel" "PatchedMachineModel" "methods" "[I", .lays "PatchedMachineModel" "PatchedMachineModel" "barred" "[I", .lays "PatchedMachineModel" "PatchedMachineModel" "waits" "I", .lays "PatchedMachineModel" "PatchedMachineModel" "done" "I", .lays "PatchedMachineModel" "PatchedMachineModel" "moves" "I", .lays "PatchedMachineModel" "PatchedMachineModel" "seen" "[I", .lays "PatchedMachineModel" "PatchedMachineModel" "height" "I", .lays "PatchedMachineModel" "PatchedMachineModel" "status" "I", .lays "PatchedMachineModel" "PatchedMachineModel" "result" "I", .lays "PatchedMachineModel" "PatchedMachineModel" "frames" "I", .lays "PatchedMachineModel" "PatchedMachineModel" "method" "[I", .lays "PatchedMachineModel" "PatchedMachineModel" "place" "[I", .lays "PatchedMachineModel" "PatchedMachineModel" "locals" "[I", .lays "PatchedMachineModel" "PatchedMachineModel" "stack" "[I", .lays "PatchedMachineModel" "PatchedMachineModel" "sort" "[I", .lays "PatchedMachineModel" "PatchedMachineModel" "top" "[I", .lays "PatchedMachineModel" "PatchedMachineModel" "made" "[I", .lays "PatchedMachineModel" "PatchedMachineModel" "held" "[I", .lays "PatchedMachineModel" "PatchedMachineModel" "led" "[Z", .lays "PatchedMachineModel" "PatchedMachineModel" "fresh" "[I", .lays "PatchedMachineModel" "PatchedMachineModel" "out" "[I", .lays "PatchedMachineModel" "PatchedMachineModel" "outs" "I", .fieldLink "PatchedMachineModel" 13 "PatchedMachineModel" "name" "[I", .fieldLink "PatchedMachineModel" 16 "PatchedMachineModel" "type" "[I", .fieldLink "PatchedMachineModel" 19 "PatchedMachineModel" "source" "[I", .fieldLink "PatchedMachineModel" 22 "PatchedMachineModel" "parameters" "[I", .fieldLink "PatchedMachineModel" 25 "PatchedMachineModel" "kinds" "[I", .fieldLink "PatchedMachineModel" 28 "PatchedMachineModel" "gives" "[I", .fieldLink "PatchedMachineModel" 31 "PatchedMachineModel" "length" "[I", .fieldLink "PatchedMachineModel" 34 "PatchedMachineModel" "op" "[I", .fieldLink "PatchedMachineModel" 37 "PatchedMachineModel" "x" "[I", .fieldLink "PatchedMachineModel" 40 "PatchedMachineModel" "y" "[I", .fieldLink "PatchedMachineModel" 43 "PatchedMachineModel" "classes" "[I", .fieldLink "PatchedMachineModel" 46 "PatchedMachineModel" "methods" "[I", .fieldLink "PatchedMachineModel" 49 "PatchedMachineModel" "barred" "[I"]
set_option maxRecDepth 100000 in
theorem u_M_copy : ∀ w ∈ t_M_copy, w ∈ am_tb := am_subI [833, 867, 869, 871, 873, 875, 877, 879, 881, 883, 885, 887, 889, 891, 893, 895, 897, 899, 901, 903, 905, 907, 909, 911, 913, 915, 917, 919, 921, 923, 925, 927, 929, 931, 933, 834, 835, 836, 837, 838, 839, 840, 841, 842, 843, 844, 845, 846] (by decide +kernel) (by decide +kernel)
set_option maxRecDepth 100000 in
theorem s_M_copy (l : Launch) : am_Sd l am_cl y_M_copy (am_ws y_M_copy prog_12_method_3_code 7 none) 0 0 f_M_copy :=
  am_meth (by decide +kernel) (Or.inr (Or.inr (Or.inl ⟨rfl, rfl⟩))) rfl (by decide) am_htc g_M_copy (am_ctx (cb := cb_M_copy) t_M_copy [] "PatchedMachine" false [] [] u_M_copy rfl (by decide +kernel) (fun h => by cases h)
    (fun _ h => absurd h List.not_mem_nil) (fun x t h => by cases h) (by decide +kernel))
def t_M_renew : List Jvm.Cond := [.fieldLink "PatchedMachineModel" 97 "PatchedMachineModel" "waits" "I", .lays "PatchedMachineModel" "PatchedMachineModel" "fields" "[I", .lays "PatchedMachineModel" "PatchedMachineModel" "name" "[I", .lays "PatchedMachineModel" "PatchedMachineModel" "type" "[I", .lays "PatchedMachineModel" "PatchedMachineModel" "source" "[I", .lays "PatchedMachineModel" "PatchedMachineModel" "parameters" "[I", .lays "PatchedMachineModel" "PatchedMachineModel" "kinds" "[I", .lays "PatchedMachineModel" "PatchedMachineModel" "gives" "[I", .lays "PatchedMachineModel" "PatchedMachineModel" "length" "[I", .lays "PatchedMachineModel" "PatchedMachineModel" "op" "[I", .lays "PatchedMachineModel" "PatchedMachineModel" "x" "[I", .lays "PatchedMachineModel" "PatchedMachineModel" "y" "[I", .lays "PatchedMachineModel" "PatchedMachineModel" "classes" "[I", .lays "PatchedMachineModel" "PatchedMachineModel" "methods" "[I", .lays "PatchedMachineModel" "PatchedMachineModel" "barred" "[I", .lays "PatchedMachineModel" "PatchedMachineModel" "waits" "I", .lays "PatchedMachineModel" "PatchedMachineModel" "done" "I", .lays "PatchedMachineModel" "PatchedMachineModel" "moves" "I", .lays "PatchedMachineModel" "PatchedMachineModel" "seen" "[I", .lays "PatchedMachineModel" "PatchedMachineModel" "height" "I", .lays "PatchedMachineModel" "PatchedMachineModel" "status" "I", .lays "PatchedMachineModel" "PatchedMachineModel" "result" "I", .lays "PatchedMachineModel" "PatchedMachineModel" "frames" "I", .lays "PatchedMachineModel" "PatchedMachineModel" "method" "[I", .lays "PatchedMachineModel" "PatchedMachineModel" "place" "[I", .lays "PatchedMachineModel" "PatchedMachineModel" "locals" "[I", .lays "PatchedMachineModel" "PatchedMachineModel" "stack" "[I", .lays "PatchedMachineModel" "PatchedMachineModel" "sort" "[I", .lays "PatchedMachineModel" "PatchedMachineModel" "top" "[I", .lays "PatchedMachineModel" "PatchedMachineModel" "made" "[I", .lays "PatchedMachineModel" "PatchedMachineModel" "held" "[I", .lays "PatchedMachineModel" "PatchedMachineModel" "led" "[Z", .lays "PatchedMachineModel" "PatchedMachineModel" "fresh" "[I", .lays "PatchedMachineModel" "PatchedMachineModel" "out" "[I", .lays "PatchedMachineModel" "PatchedMachineModel" "outs" "I", .methodLink "PatchedMachineModel" 107 y_M_copy, .code y_M_copy prog_12_method_3_code 7 none, .initialized "PatchedMachineModel", .instanceMethod y_M_copy, .selects "PatchedMachineModel" y_M_copy y_M_copy, .fieldLink "PatchedMachineModel" 43 "PatchedMachineModel" "classes" "[I", .fieldLink "PatchedMachineModel" 46 "PatchedMachineModel" "methods" "[I"]
set_option maxRecDepth 100000 in
theorem u_M_renew : ∀ w ∈ t_M_renew, w ∈ am_tb := am_subI [847, 867, 869, 871, 873, 875, 877, 879, 881, 883, 885, 887, 889, 891, 893, 895, 897, 899, 901, 903, 905, 907, 909, 911, 913, 915, 917, 919, 921, 923, 925, 927, 929, 931, 933, 974, 977, 115, 976, 79, 844, 845] (by decide +kernel) (by decide +kernel)
set_option maxRecDepth 100000 in
theorem s_M_renew (l : Launch) : am_Sd l am_cl y_M_renew (am_ws y_M_renew prog_12_method_11_code 1 none) 1 26 f_M_renew :=
  am_meth (by decide +kernel) (Or.inr (Or.inr (Or.inl ⟨rfl, rfl⟩))) rfl (by decide) am_htc g_M_renew (am_ctx (cb := cb_M_renew) t_M_renew [(107, .invokevirtual 107)] "PatchedMachine" false [] [] u_M_renew rfl (by decide +kernel) (fun h => by cases h)
    (List.forall_mem_cons.mpr ⟨am_KV (na := 2) u_M_renew (s_M_copy l) rfl (by decide +kernel) (by decide +kernel), (fun _ h => absurd h List.not_mem_nil)⟩) (fun x t h => by cases h) (by decide +kernel))
def t_M_drop : List Jvm.Cond := [.fieldLink "PatchedMachineModel" 43 "PatchedMachineModel" "classes" "[I", .lays "PatchedMachineModel" "PatchedMachineModel" "fields" "[I", .lays "PatchedMachineModel" "PatchedMachineModel" "name" "[I", .lays "PatchedMachineModel" "PatchedMachineModel" "type" "[I", .lays "PatchedMachineModel" "PatchedMachineModel" "source" "[I", .lays "PatchedMachineModel" "PatchedMachineModel" "parameters" "[I", .lays "PatchedMachineModel" "PatchedMachineModel" "kinds" "[I", .lays "PatchedMachineModel" "PatchedMachineModel" "gives" "[I", .lays "PatchedMachineModel" "PatchedMachineModel" "length" "[I", .lays "PatchedMachineModel" "PatchedMachineModel" "op" "[I", .lays "PatchedMachineModel" "PatchedMachineModel" "x" "[I", .lays "PatchedMachineModel" "PatchedMachineModel" "y" "[I", .lays "PatchedMachineModel" "PatchedMachineModel" "classes" "[I", .lays "PatchedMachineModel" "PatchedMachineModel" "methods" "[I", .lays "PatchedMachineModel" "PatchedMachineModel" "barred" "[I", .lays "PatchedMachineModel" "PatchedMachineModel" "waits" "I", .lays "PatchedMachineModel" "PatchedMachineModel" "done" "I", .lays "PatchedMachineModel" "PatchedMachineModel" "moves" "I", .lays "PatchedMachineModel" "PatchedMachineModel" "seen" "[I", .lays "PatchedMachineModel" "PatchedMachineModel" "height" "I", .lays "PatchedMachineModel" "PatchedMachineModel" "status" "I", .lays "PatchedMachineModel" "PatchedMachineModel" "result" "I", .lays "PatchedMachineModel" "PatchedMachineModel" "frames" "I", .lays "PatchedMachineModel" "PatchedMachineModel" "method" "[I", .lays "PatchedMachineModel" "PatchedMachineModel" "place" "[I", .lays "PatchedMachineModel" "PatchedMachineModel" "locals" "[I", .lays "PatchedMachineModel" "PatchedMachineModel" "stack" "[I", .lays "PatchedMachineModel" "PatchedMachineModel" "sort" "[I", .lays "PatchedMachineModel" "PatchedMachineModel" "top" "[I", .lays "PatchedMachineModel" "PatchedMachineModel" "made" "[I", .lays "PatchedMachineModel" "PatchedMachineModel" "held" "[I", .lays "PatchedMachineModel" "PatchedMachineModel" "led" "[Z", .lays "PatchedMachineModel" "PatchedMachineModel" "fresh" "[I", .lays "PatchedMachineModel" "PatchedMachineModel" "out" "[I", .lays "PatchedMachineModel" "PatchedMachineModel" "outs" "I", .fieldLink "PatchedMachineModel" 46 "PatchedMachineModel" "methods" "[I", .methodLink "PatchedMachineModel" 111 y_M_renew, .code y_M_renew prog_12_method_11_code 1 none, .initialized "PatchedMachineModel", .instanceMethod y_M_renew, .selects "PatchedMachineModel" y_M_renew y_M_renew]
set_option maxRecDepth 100000 in
theorem u_M_drop : ∀ w ∈ t_M_drop, w ∈ am_tb := am_subI [844, 867, 869, 871, 873, 875, 877, 879, 881, 883, 885, 887, 889, 891, 893, 895, 897, 899, 901, 903, 905, 907, 909, 911, 913, 915, 917, 919, 921, 923, 925, 927, 929, 931, 933, 845, 970, 973, 115, 972, 78] (by decide +kernel) (by decide +kernel)
set_option maxRecDepth 100000 in
theorem s_M_drop (l : Launch) : am_Sd l am_cl y_M_drop (am_ws y_M_drop prog_12_method_12_code 1 (some .boolean)) 2 46 f_M_drop :=
  am_meth (by decide +kernel) (Or.inr (Or.inl ⟨rfl, rfl⟩)) rfl (by decide) am_htc g_M_drop (am_ctx (cb := cb_M_drop) t_M_drop [(111, .invokevirtual 111)] "PatchedMachine" false [] [] u_M_drop rfl (by decide +kernel) (fun h => by cases h)
    (List.forall_mem_cons.mpr ⟨am_KV (na := 0) u_M_drop (s_M_renew l) rfl (by decide +kernel) (by decide +kernel), (fun _ h => absurd h List.not_mem_nil)⟩) (fun x t h => by cases h) (by decide +kernel))
def t_M_puts : List Jvm.Cond := [.fieldLink "PatchedMachineModel" 52 "PatchedMachineModel" "seen" "[I", .lays "PatchedMachineModel" "PatchedMachineModel" "fields" "[I", .lays "PatchedMachineModel" "PatchedMachineModel" "name" "[I", .lays "PatchedMachineModel" "PatchedMachineModel" "type" "[I", .lays "PatchedMachineModel" "PatchedMachineModel" "source" "[I", .lays "PatchedMachineModel" "PatchedMachineModel" "parameters" "[I", .lays "PatchedMachineModel" "PatchedMachineModel" "kinds" "[I", .lays "PatchedMachineModel" "PatchedMachineModel" "gives" "[I", .lays "PatchedMachineModel" "PatchedMachineModel" "length" "[I", .lays "PatchedMachineModel" "PatchedMachineModel" "op" "[I", .lays "PatchedMachineModel" "PatchedMachineModel" "x" "[I", .lays "PatchedMachineModel" "PatchedMachineModel" "y" "[I", .lays "PatchedMachineModel" "PatchedMachineModel" "classes" "[I", .lays "PatchedMachineModel" "PatchedMachineModel" "methods" "[I", .lays "PatchedMachineModel" "PatchedMachineModel" "barred" "[I", .lays "PatchedMachineModel" "PatchedMachineModel" "waits" "I", .lays "PatchedMachineModel" "PatchedMachineModel" "done" "I", .lays "PatchedMachineModel" "PatchedMachineModel" "moves" "I", .lays "PatchedMachineModel" "PatchedMachineModel" "seen" "[I", .lays "PatchedMachineModel" "PatchedMachineModel" "height" "I", .lays "PatchedMachineModel" "PatchedMachineModel" "status" "I", .lays "PatchedMachineModel" "PatchedMachineModel" "result" "I", .lays "PatchedMachineModel" "PatchedMachineModel" "frames" "I", .lays "PatchedMachineModel" "PatchedMachineModel" "method" "[I", .lays "PatchedMachineModel" "PatchedMachineModel" "place" "[I", .lays "PatchedMachineModel" "PatchedMachineModel" "locals" "[I", .lays "PatchedMachineModel" "PatchedMachineModel" "stack" "[I", .lays "PatchedMachineModel" "PatchedMachineModel" "sort" "[I", .lays "PatchedMachineModel" "PatchedMachineModel" "top" "[I", .lays "PatchedMachineModel" "PatchedMachineModel" "made" "[I", .lays "PatchedMachineModel" "PatchedMachineModel" "held" "[I", .lays "PatchedMachineModel" "PatchedMachineModel" "led" "[Z", .lays "PatchedMachineModel" "PatchedMachineModel" "fresh" "[I", .lays "PatchedMachineModel" "PatchedMachineModel" "out" "[I", .lays "PatchedMachineModel" "PatchedMachineModel" "outs" "I", .fieldLink "PatchedMachineModel" 114 "PatchedMachineModel" "height" "I"]
set_option maxRecDepth 100000 in
theorem u_M_puts : ∀ w ∈ t_M_puts, w ∈ am_tb := am_subI [850, 867, 869, 871, 873, 875, 877, 879, 881, 883, 885, 887, 889, 891, 893, 895, 897, 899, 901, 903, 905, 907, 909, 911, 913, 915, 917, 919, 921, 923, 925, 927, 929, 931, 933, 851] (by decide +kernel) (by decide +kernel)
set_option maxRecDepth 100000 in
theorem s_M_puts (l : Launch) : am_Sd l am_cl y_M_puts (am_ws y_M_puts prog_12_method_14_code 2 (some .boolean)) 0 0 f_M_puts :=
  am_meth (by decide +kernel) (Or.inr (Or.inl ⟨rfl, rfl⟩)) rfl (by decide) am_htc g_M_puts (am_ctx (cb := cb_M_puts) t_M_puts [] "PatchedMachine" false [114] [] u_M_puts rfl (by decide +kernel) (fun h => by cases h)
    (fun _ h => absurd h List.not_mem_nil) (fun x t h => by cases h) (by decide +kernel))
def t_M_local : List Jvm.Cond := [.fieldLink "PatchedMachineModel" 25 "PatchedMachineModel" "kinds" "[I", .lays "PatchedMachineModel" "PatchedMachineModel" "fields" "[I", .lays "PatchedMachineModel" "PatchedMachineModel" "name" "[I", .lays "PatchedMachineModel" "PatchedMachineModel" "type" "[I", .lays "PatchedMachineModel" "PatchedMachineModel" "source" "[I", .lays "PatchedMachineModel" "PatchedMachineModel" "parameters" "[I", .lays "PatchedMachineModel" "PatchedMachineModel" "kinds" "[I", .lays "PatchedMachineModel" "PatchedMachineModel" "gives" "[I", .lays "PatchedMachineModel" "PatchedMachineModel" "length" "[I", .lays "PatchedMachineModel" "PatchedMachineModel" "op" "[I", .lays "PatchedMachineModel" "PatchedMachineModel" "x" "[I", .lays "PatchedMachineModel" "PatchedMachineModel" "y" "[I", .lays "PatchedMachineModel" "PatchedMachineModel" "classes" "[I", .lays "PatchedMachineModel" "PatchedMachineModel" "methods" "[I", .lays "PatchedMachineModel" "PatchedMachineModel" "barred" "[I", .lays "PatchedMachineModel" "PatchedMachineModel" "waits" "I", .lays "PatchedMachineModel" "PatchedMachineModel" "done" "I", .lays "PatchedMachineModel" "PatchedMachineModel" "moves" "I", .lays "PatchedMachineModel" "PatchedMachineModel" "seen" "[I", .lays "PatchedMachineModel" "PatchedMachineModel" "height" "I", .lays "PatchedMachineModel" "PatchedMachineModel" "status" "I", .lays "PatchedMachineModel" "PatchedMachineModel" "result" "I", .lays "PatchedMachineModel" "PatchedMachineModel" "frames" "I", .lays "PatchedMachineModel" "PatchedMachineModel" "method" "[I", .lays "PatchedMachineModel" "PatchedMachineModel" "place" "[I", .lays "PatchedMachineModel" "PatchedMachineModel" "locals" "[I", .lays "PatchedMachineModel" "PatchedMachineModel" "stack" "[I", .lays "PatchedMachineModel" "PatchedMachineModel" "sort" "[I", .lays "PatchedMachineModel" "PatchedMachineModel" "top" "[I", .lays "PatchedMachineModel" "PatchedMachineModel" "made" "[I", .lays "PatchedMachineModel" "PatchedMachineModel" "held" "[I", .lays "PatchedMachineModel" "PatchedMachineModel" "led" "[Z", .lays "PatchedMachineModel" "PatchedMachineModel" "fresh" "[I", .lays "PatchedMachineModel" "PatchedMachineModel" "out" "[I", .lays "PatchedMachineModel" "PatchedMachineModel" "outs" "I"]
set_option maxRecDepth 100000 in
theorem u_M_local : ∀ w ∈ t_M_local, w ∈ am_tb := am_subI [838, 867, 869, 871, 873, 875, 877, 879, 881, 883, 885, 887, 889, 891, 893, 895, 897, 899, 901, 903, 905, 907, 909, 911, 913, 915, 917, 919, 921, 923, 925, 927, 929, 931, 933] (by decide +kernel) (by decide +kernel)
set_option maxRecDepth 100000 in
theorem s_M_local (l : Launch) : am_Sd l am_cl y_M_local (am_ws y_M_local prog_12_method_15_code 3 (some .int)) 0 0 f_M_local :=
  am_meth (by decide +kernel) (Or.inl ⟨rfl, rfl⟩) rfl (by decide) am_htc g_M_local (am_ctx (cb := cb_M_local) t_M_local [] "PatchedMachine" false [] [] u_M_local rfl (by decide +kernel) (fun h => by cases h)
    (fun _ h => absurd h List.not_mem_nil) (fun x t h => by cases h) (by decide +kernel))
def t_M_takes : List Jvm.Cond := [.fieldLink "PatchedMachineModel" 114 "PatchedMachineModel" "height" "I", .lays "PatchedMachineModel" "PatchedMachineModel" "fields" "[I", .lays "PatchedMachineModel" "PatchedMachineModel" "name" "[I", .lays "PatchedMachineModel" "PatchedMachineModel" "type" "[I", .lays "PatchedMachineModel" "PatchedMachineModel" "source" "[I", .lays "PatchedMachineModel" "PatchedMachineModel" "parameters" "[I", .lays "PatchedMachineModel" "PatchedMachineModel" "kinds" "[I", .lays "PatchedMachineModel" "PatchedMachineModel" "gives" "[I", .lays "PatchedMachineModel" "PatchedMachineModel" "length" "[I", .lays "PatchedMachineModel" "PatchedMachineModel" "op" "[I", .lays "PatchedMachineModel" "PatchedMachineModel" "x" "[I", .lays "PatchedMachineModel" "PatchedMachineModel" "y" "[I", .lays "PatchedMachineModel" "PatchedMachineModel" "classes" "[I", .lays "PatchedMachineModel" "PatchedMachineModel" "methods" "[I", .lays "PatchedMachineModel" "PatchedMachineModel" "barred" "[I", .lays "PatchedMachineModel" "PatchedMachineModel" "waits" "I", .lays "PatchedMachineModel" "PatchedMachineModel" "done" "I", .lays "PatchedMachineModel" "PatchedMachineModel" "moves" "I", .lays "PatchedMachineModel" "PatchedMachineModel" "seen" "[I", .lays "PatchedMachineModel" "PatchedMachineModel" "height" "I", .lays "PatchedMachineModel" "PatchedMachineModel" "status" "I", .lays "PatchedMachineModel" "PatchedMachineModel" "result" "I", .lays "PatchedMachineModel" "PatchedMachineModel" "frames" "I", .lays "PatchedMachineModel" "PatchedMachineModel" "method" "[I", .lays "PatchedMachineModel" "PatchedMachineModel" "place" "[I", .lays "PatchedMachineModel" "PatchedMachineModel" "locals" "[I", .lays "PatchedMachineModel" "PatchedMachineModel" "stack" "[I", .lays "PatchedMachineModel" "PatchedMachineModel" "sort" "[I", .lays "PatchedMachineModel" "PatchedMachineModel" "top" "[I", .lays "PatchedMachineModel" "PatchedMachineModel" "made" "[I", .lays "PatchedMachineModel" "PatchedMachineModel" "held" "[I", .lays "PatchedMachineModel" "PatchedMachineModel" "led" "[Z", .lays "PatchedMachineModel" "PatchedMachineModel" "fresh" "[I", .lays "PatchedMachineModel" "PatchedMachineModel" "out" "[I", .lays "PatchedMachineModel" "PatchedMachineModel" "outs" "I", .fieldLink "PatchedMachineModel" 52 "PatchedMachineModel" "seen" "[I"]
set_option maxRecDepth 100000 in
theorem u_M_takes : ∀ w ∈ t_M_takes, w ∈ am_tb := am_subI [851, 867, 869, 871, 873, 875, 877, 879, 881, 883, 885, 887, 889, 891, 893, 895, 897, 899, 901, 903, 905, 907, 909, 911, 913, 915, 917, 919, 921, 923, 925, 927, 929, 931, 933, 850] (by decide +kernel) (by decide +kernel)
set_option maxRecDepth 100000 in
theorem s_M_takes (l : Launch) : am_Sd l am_cl y_M_takes (am_ws y_M_takes prog_12_method_13_code 2 (some .boolean)) 0 0 f_M_takes :=
  am_meth (by decide +kernel) (Or.inr (Or.inl ⟨rfl, rfl⟩)) rfl (by decide) am_htc g_M_takes (am_ctx (cb := cb_M_takes) t_M_takes [] "PatchedMachine" false [114] [] u_M_takes rfl (by decide +kernel) (fun h => by cases h)
    (fun _ h => absurd h List.not_mem_nil) (fun x t h => by cases h) (by decide +kernel))
def t_M_member : List Jvm.Cond := [.methodLink "PatchedMachineModel" 93 y_M_find, .code y_M_find prog_12_method_4_code 5 (some .int), .initialized "PatchedMachineModel", .instanceMethod y_M_find, .selects "PatchedMachineModel" y_M_find y_M_find, .methodLink "PatchedMachineModel" 101 y_M_typeOf, .code y_M_typeOf prog_12_method_5_code 4 (some .int), .instanceMethod y_M_typeOf, .selects "PatchedMachineModel" y_M_typeOf y_M_typeOf, .methodLink "PatchedMachineModel" 121 y_M_takes, .code y_M_takes prog_12_method_13_code 2 (some .boolean), .instanceMethod y_M_takes, .selects "PatchedMachineModel" y_M_takes y_M_takes, .methodLink "PatchedMachineModel" 125 y_M_puts, .code y_M_puts prog_12_method_14_code 2 (some .boolean), .instanceMethod y_M_puts, .selects "PatchedMachineModel" y_M_puts y_M_puts]
set_option maxRecDepth 100000 in
theorem u_M_member : ∀ w ∈ t_M_member, w ∈ am_tb := am_subI [947, 950, 115, 949, 76, 951, 954, 953, 77, 1002, 1005, 1004, 85, 994, 997, 996, 83] (by decide +kernel) (by decide +kernel)
set_option maxRecDepth 100000 in
theorem s_M_member (l : Launch) : am_Sd l am_cl y_M_member (am_ws y_M_member prog_12_method_17_code 6 (some .boolean)) 1 24 f_M_member :=
  am_meth (by decide +kernel) (Or.inr (Or.inl ⟨rfl, rfl⟩)) rfl (by decide) am_htc g_M_member (am_ctx (cb := cb_M_member) t_M_member [(93, .invokevirtual 93), (101, .invokevirtual 101), (121, .invokevirtual 121), (125, .invokevirtual 125)] "PatchedMachine" false [] [] u_M_member rfl (by decide +kernel) (fun h => by cases h)
    (List.forall_mem_cons.mpr ⟨am_KV (na := 3) u_M_member (s_M_find l) rfl (by decide +kernel) (by decide +kernel), (List.forall_mem_cons.mpr ⟨am_KV (na := 3) u_M_member (s_M_typeOf l) rfl (by decide +kernel) (by decide +kernel), (List.forall_mem_cons.mpr ⟨am_KV (na := 1) u_M_member (s_M_takes l) rfl (by decide +kernel) (by decide +kernel), (List.forall_mem_cons.mpr ⟨am_KV (na := 1) u_M_member (s_M_puts l) rfl (by decide +kernel) (by decide +kernel), (fun _ h => absurd h List.not_mem_nil)⟩)⟩)⟩)⟩) (fun x t h => by cases h) (by decide +kernel))
def t_M_passes : List Jvm.Cond := [.fieldLink "PatchedMachineModel" 31 "PatchedMachineModel" "length" "[I", .lays "PatchedMachineModel" "PatchedMachineModel" "fields" "[I", .lays "PatchedMachineModel" "PatchedMachineModel" "name" "[I", .lays "PatchedMachineModel" "PatchedMachineModel" "type" "[I", .lays "PatchedMachineModel" "PatchedMachineModel" "source" "[I", .lays "PatchedMachineModel" "PatchedMachineModel" "parameters" "[I", .lays "PatchedMachineModel" "PatchedMachineModel" "kinds" "[I", .lays "PatchedMachineModel" "PatchedMachineModel" "gives" "[I", .lays "PatchedMachineModel" "PatchedMachineModel" "length" "[I", .lays "PatchedMachineModel" "PatchedMachineModel" "op" "[I", .lays "PatchedMachineModel" "PatchedMachineModel" "x" "[I", .lays "PatchedMachineModel" "PatchedMachineModel" "y" "[I", .lays "PatchedMachineModel" "PatchedMachineModel" "classes" "[I", .lays "PatchedMachineModel" "PatchedMachineModel" "methods" "[I", .lays "PatchedMachineModel" "PatchedMachineModel" "barred" "[I", .lays "PatchedMachineModel" "PatchedMachineModel" "waits" "I", .lays "PatchedMachineModel" "PatchedMachineModel" "done" "I", .lays "PatchedMachineModel" "PatchedMachineModel" "moves" "I", .lays "PatchedMachineModel" "PatchedMachineModel" "seen" "[I", .lays "PatchedMachineModel" "PatchedMachineModel" "height" "I", .lays "PatchedMachineModel" "PatchedMachineModel" "status" "I", .lays "PatchedMachineModel" "PatchedMachineModel" "result" "I", .lays "PatchedMachineModel" "PatchedMachineModel" "frames" "I", .lays "PatchedMachineModel" "PatchedMachineModel" "method" "[I", .lays "PatchedMachineModel" "PatchedMachineModel" "place" "[I", .lays "PatchedMachineModel" "PatchedMachineModel" "locals" "[I", .lays "PatchedMachineModel" "PatchedMachineModel" "stack" "[I", .lays "PatchedMachineModel" "PatchedMachineModel" "sort" "[I", .lays "PatchedMachineModel" "PatchedMachineModel" "top" "[I", .lays "PatchedMachineModel" "PatchedMachineModel" "made" "[I", .lays "PatchedMachineModel" "PatchedMachineModel" "held" "[I", .lays "PatchedMachineModel" "PatchedMachineModel" "led" "[Z", .lays "PatchedMachineModel" "PatchedMachineModel" "fresh" "[I", .lays "PatchedMachineModel" "PatchedMachineModel" "out" "[I", .lays "PatchedMachineModel" "PatchedMachineModel" "outs" "I", .fieldLink "PatchedMachineModel" 22 "PatchedMachineModel" "parameters" "[I", .methodLink "PatchedMachineModel" 117 y_M_local, .code y_M_local prog_12_method_15_code 3 (some .int), .initialized "PatchedMachineModel", .instanceMethod y_M_local, .selects "PatchedMachineModel" y_M_local y_M_local, .methodLink "PatchedMachineModel" 121 y_M_takes, .code y_M_takes prog_12_method_13_code 2 (some .boolean), .instanceMethod y_M_takes, .selects "PatchedMachineModel" y_M_takes y_M_takes, .fieldLink "PatchedMachineModel" 28 "PatchedMachineModel" "gives" "[I", .methodLink "PatchedMachineModel" 125 y_M_puts, .code y_M_puts prog_12_method_14_code 2 (some .boolean), .instanceMethod y_M_puts, .selects "PatchedMachineModel" y_M_puts y_M_puts]
set_option maxRecDepth 100000 in
theorem u_M_passes : ∀ w ∈ t_M_passes, w ∈ am_tb := am_subI [840, 867, 869, 871, 873, 875, 877, 879, 881, 883, 885, 887, 889, 891, 893, 895, 897, 899, 901, 903, 905, 907, 909, 911, 913, 915, 917, 919, 921, 923, 925, 927, 929, 931, 933, 837, 998, 1001, 115, 1000, 84, 1002, 1005, 1004, 85, 839, 994, 997, 996, 83] (by decide +kernel) (by decide +kernel)
set_option maxRecDepth 100000 in
theorem s_M_passes (l : Launch) : am_Sd l am_cl y_M_passes (am_ws y_M_passes prog_12_method_16_code 4 (some .boolean)) 1 22 f_M_passes :=
  am_meth (by decide +kernel) (Or.inr (Or.inl ⟨rfl, rfl⟩)) rfl (by decide) am_htc g_M_passes (am_ctx (cb := cb_M_passes) t_M_passes [(117, .invokevirtual 117), (121, .invokevirtual 121), (125, .invokevirtual 125)] "PatchedMachine" false [] [] u_M_passes rfl (by decide +kernel) (fun h => by cases h)
    (List.forall_mem_cons.mpr ⟨am_KV (na := 2) u_M_passes (s_M_local l) rfl (by decide +kernel) (by decide +kernel), (List.forall_mem_cons.mpr ⟨am_KV (na := 1) u_M_passes (s_M_takes l) rfl (by decide +kernel) (by decide +kernel), (List.forall_mem_cons.mpr ⟨am_KV (na := 1) u_M_passes (s_M_puts l) rfl (by decide +kernel) (by decide +kernel), (fun _ h => absurd h List.not_mem_nil)⟩)⟩)⟩) (fun x t h => by cases h) (by decide +kernel))
def t_M_goes : List Jvm.Cond := [.fieldLink "PatchedMachineModel" 34 "PatchedMachineModel" "op" "[I", .lays "PatchedMachineModel" "PatchedMachineModel" "fields" "[I", .lays "PatchedMachineModel" "PatchedMachineModel" "name" "[I", .lays "PatchedMachineModel" "PatchedMachineModel" "type" "[I", .lays "PatchedMachineModel" "PatchedMachineModel" "source" "[I", .lays "PatchedMachineModel" "PatchedMachineModel" "parameters" "[I", .lays "PatchedMachineModel" "PatchedMachineModel" "kinds" "[I", .lays "PatchedMachineModel" "PatchedMachineModel" "gives" "[I", .lays "PatchedMachineModel" "PatchedMachineModel" "length" "[I", .lays "PatchedMachineModel" "PatchedMachineModel" "op" "[I", .lays "PatchedMachineModel" "PatchedMachineModel" "x" "[I", .lays "PatchedMachineModel" "PatchedMachineModel" "y" "[I", .lays "PatchedMachineModel" "PatchedMachineModel" "classes" "[I", .lays "PatchedMachineModel" "PatchedMachineModel" "methods" "[I", .lays "PatchedMachineModel" "PatchedMachineModel" "barred" "[I", .lays "PatchedMachineModel" "PatchedMachineModel" "waits" "I", .lays "PatchedMachineModel" "PatchedMachineModel" "done" "I", .lays "PatchedMachineModel" "PatchedMachineModel" "moves" "I", .lays "PatchedMachineModel" "PatchedMachineModel" "seen" "[I", .lays "PatchedMachineModel" "PatchedMachineModel" "height" "I", .lays "PatchedMachineModel" "PatchedMachineModel" "status" "I", .lays "PatchedMachineModel" "PatchedMachineModel" "result" "I", .lays "PatchedMachineModel" "PatchedMachineModel" "frames" "I", .lays "PatchedMachineModel" "PatchedMachineModel" "method" "[I", .lays "PatchedMachineModel" "PatchedMachineModel" "place" "[I", .lays "PatchedMachineModel" "PatchedMachineModel" "locals" "[I", .lays "PatchedMachineModel" "PatchedMachineModel" "stack" "[I", .lays "PatchedMachineModel" "PatchedMachineModel" "sort" "[I", .lays "PatchedMachineModel" "PatchedMachineModel" "top" "[I", .lays "PatchedMachineModel" "PatchedMachineModel" "made" "[I", .lays "PatchedMachineModel" "PatchedMachineModel" "held" "[I", .lays "PatchedMachineModel" "PatchedMachineModel" "led" "[Z", .lays "PatchedMachineModel" "PatchedMachineModel" "fresh" "[I", .lays "PatchedMachineModel" "PatchedMachineModel" "out" "[I", .lays "PatchedMachineModel" "PatchedMachineModel" "outs" "I", .fieldLink "PatchedMachineModel" 37 "PatchedMachineModel" "x" "[I", .methodLink "PatchedMachineModel" 125 y_M_puts, .code y_M_puts prog_12_method_14_code 2 (some .boolean), .initialized "PatchedMachineModel", .instanceMethod y_M_puts, .selects "PatchedMachineModel" y_M_puts y_M_puts, .methodLink "PatchedMachineModel" 117 y_M_local, .code y_M_local prog_12_method_15_code 3 (some .int), .instanceMethod y_M_local, .selects "PatchedMachineModel" y_M_local y_M_local, .methodLink "PatchedMachineModel" 121 y_M_takes, .code y_M_takes prog_12_method_13_code 2 (some .boolean), .instanceMethod y_M_takes, .selects "PatchedMachineModel" y_M_takes y_M_takes, .fieldLink "PatchedMachineModel" 114 "PatchedMachineModel" "height" "I", .fieldLink "PatchedMachineModel" 31 "PatchedMachineModel" "length" "[I", .fieldLink "PatchedMachineModel" 40 "PatchedMachineModel" "y" "[I", .methodLink "PatchedMachineModel" 128 y_M_member, .code y_M_member prog_12_method_17_code 6 (some .boolean), .instanceMethod y_M_member, .selects "PatchedMachineModel" y_M_member y_M_member, .methodLink "PatchedMachineModel" 131 y_M_passes, .code y_M_passes prog_12_method_16_code 4 (some .boolean), .instanceMethod y_M_passes, .selects "PatchedMachineModel" y_M_passes y_M_passes, .fieldLink "PatchedMachineModel" 28 "PatchedMachineModel" "gives" "[I"]
set_option maxRecDepth 100000 in
theorem u_M_goes : ∀ w ∈ t_M_goes, w ∈ am_tb := am_subI [841, 867, 869, 871, 873, 875, 877, 879, 881, 883, 885, 887, 889, 891, 893, 895, 897, 899, 901, 903, 905, 907, 909, 911, 913, 915, 917, 919, 921, 923, 925, 927, 929, 931, 933, 842, 994, 997, 115, 996, 83, 998, 1001, 1000, 84, 1002, 1005, 1004, 85, 851, 840, 843, 1006, 1009, 1008, 86, 1010, 1013, 1012, 87, 839] (by decide +kernel) (by decide +kernel)
set_option maxRecDepth 100000 in
theorem s_M_goes (l : Launch) : am_Sd l am_cl y_M_goes (am_ws y_M_goes prog_12_method_18_code 5 (some .boolean)) 2 49 f_M_goes :=
  am_meth (by decide +kernel) (Or.inr (Or.inl ⟨rfl, rfl⟩)) rfl (by decide) am_htc g_M_goes (am_ctx (cb := cb_M_goes) t_M_goes [(125, .invokevirtual 125), (117, .invokevirtual 117), (121, .invokevirtual 121), (128, .invokevirtual 128), (131, .invokevirtual 131)] "PatchedMachine" false [] [] u_M_goes rfl (by decide +kernel) (fun h => by cases h)
    (List.forall_mem_cons.mpr ⟨am_KV (na := 1) u_M_goes (s_M_puts l) rfl (by decide +kernel) (by decide +kernel), (List.forall_mem_cons.mpr ⟨am_KV (na := 2) u_M_goes (s_M_local l) rfl (by decide +kernel) (by decide +kernel), (List.forall_mem_cons.mpr ⟨am_KV (na := 1) u_M_goes (s_M_takes l) rfl (by decide +kernel) (by decide +kernel), (List.forall_mem_cons.mpr ⟨am_KV (na := 3) u_M_goes (s_M_member l) rfl (by decide +kernel) (by decide +kernel), (List.forall_mem_cons.mpr ⟨am_KV (na := 1) u_M_goes (s_M_passes l) rfl (by decide +kernel) (by decide +kernel), (fun _ h => absurd h List.not_mem_nil)⟩)⟩)⟩)⟩)⟩) (fun x t h => by cases h) (by decide +kernel))
def t_M_aimedAt : List Jvm.Cond := [.fieldLink "PatchedMachineModel" 31 "PatchedMachineModel" "length" "[I", .lays "PatchedMachineModel" "PatchedMachineModel" "fields" "[I", .lays "PatchedMachineModel" "PatchedMachineModel" "name" "[I", .lays "PatchedMachineModel" "PatchedMachineModel" "type" "[I", .lays "PatchedMachineModel" "PatchedMachineModel" "source" "[I", .lays "PatchedMachineModel" "PatchedMachineModel" "parameters" "[I", .lays "PatchedMachineModel" "PatchedMachineModel" "kinds" "[I", .lays "PatchedMachineModel" "PatchedMachineModel" "gives" "[I", .lays "PatchedMachineModel" "PatchedMachineModel" "length" "[I", .lays "PatchedMachineModel" "PatchedMachineModel" "op" "[I", .lays "PatchedMachineModel" "PatchedMachineModel" "x" "[I", .lays "PatchedMachineModel" "PatchedMachineModel" "y" "[I", .lays "PatchedMachineModel" "PatchedMachineModel" "classes" "[I", .lays "PatchedMachineModel" "PatchedMachineModel" "methods" "[I", .lays "PatchedMachineModel" "PatchedMachineModel" "barred" "[I", .lays "PatchedMachineModel" "PatchedMachineModel" "waits" "I", .lays "PatchedMachineModel" "PatchedMachineModel" "done" "I", .lays "PatchedMachineModel" "PatchedMachineModel" "moves" "I", .lays "PatchedMachineModel" "PatchedMachineModel" "seen" "[I", .lays "PatchedMachineModel" "PatchedMachineModel" "height" "I", .lays "PatchedMachineModel" "PatchedMachineModel" "status" "I", .lays "PatchedMachineModel" "PatchedMachineModel" "result" "I", .lays "PatchedMachineModel" "PatchedMachineModel" "frames" "I", .lays "PatchedMachineModel" "PatchedMachineModel" "method" "[I", .lays "PatchedMachineModel" "PatchedMachineModel" "place" "[I", .lays "PatchedMachineModel" "PatchedMachineModel" "locals" "[I", .lays "PatchedMachineModel" "PatchedMachineModel" "stack" "[I", .lays "PatchedMachineModel" "PatchedMachineModel" "sort" "[I", .lays "PatchedMachineModel" "PatchedMachineModel" "top" "[I", .lays "PatchedMachineModel" "PatchedMachineModel" "made" "[I", .lays "PatchedMachineModel" "PatchedMachineModel" "held" "[I", .lays "PatchedMachineModel" "PatchedMachineModel" "led" "[Z", .lays "PatchedMachineModel" "PatchedMachineModel" "fresh" "[I", .lays "PatchedMachineModel" "PatchedMachineModel" "out" "[I", .lays "PatchedMachineModel" "PatchedMachineModel" "outs" "I", .fieldLink "PatchedMachineModel" 34 "PatchedMachineModel" "op" "[I", .fieldLink "PatchedMachineModel" 37 "PatchedMachineModel" "x" "[I"]
set_option maxRecDepth 100000 in
theorem u_M_aimedAt : ∀ w ∈ t_M_aimedAt, w ∈ am_tb := am_subI [840, 867, 869, 871, 873, 875, 877, 879, 881, 883, 885, 887, 889, 891, 893, 895, 897, 899, 901, 903, 905, 907, 909, 911, 913, 915, 917, 919, 921, 923, 925, 927, 929, 931, 933, 841, 842] (by decide +kernel) (by decide +kernel)
set_option maxRecDepth 100000 in
theorem s_M_aimedAt (l : Launch) : am_Sd l am_cl y_M_aimedAt (am_ws y_M_aimedAt prog_12_method_19_code 6 (some .boolean)) 0 0 f_M_aimedAt :=
  am_meth (by decide +kernel) (Or.inr (Or.inl ⟨rfl, rfl⟩)) rfl (by decide) am_htc g_M_aimedAt (am_ctx (cb := cb_M_aimedAt) t_M_aimedAt [] "PatchedMachine" false [] [] u_M_aimedAt rfl (by decide +kernel) (fun h => by cases h)
    (fun _ h => absurd h List.not_mem_nil) (fun x t h => by cases h) (by decide +kernel))
def t_M_bad : List Jvm.Cond := [.fieldLink "PatchedMachineModel" 114 "PatchedMachineModel" "height" "I", .lays "PatchedMachineModel" "PatchedMachineModel" "fields" "[I", .lays "PatchedMachineModel" "PatchedMachineModel" "name" "[I", .lays "PatchedMachineModel" "PatchedMachineModel" "type" "[I", .lays "PatchedMachineModel" "PatchedMachineModel" "source" "[I", .lays "PatchedMachineModel" "PatchedMachineModel" "parameters" "[I", .lays "PatchedMachineModel" "PatchedMachineModel" "kinds" "[I", .lays "PatchedMachineModel" "PatchedMachineModel" "gives" "[I", .lays "PatchedMachineModel" "PatchedMachineModel" "length" "[I", .lays "PatchedMachineModel" "PatchedMachineModel" "op" "[I", .lays "PatchedMachineModel" "PatchedMachineModel" "x" "[I", .lays "PatchedMachineModel" "PatchedMachineModel" "y" "[I", .lays "PatchedMachineModel" "PatchedMachineModel" "classes" "[I", .lays "PatchedMachineModel" "PatchedMachineModel" "methods" "[I", .lays "PatchedMachineModel" "PatchedMachineModel" "barred" "[I", .lays "PatchedMachineModel" "PatchedMachineModel" "waits" "I", .lays "PatchedMachineModel" "PatchedMachineModel" "done" "I", .lays "PatchedMachineModel" "PatchedMachineModel" "moves" "I", .lays "PatchedMachineModel" "PatchedMachineModel" "seen" "[I", .lays "PatchedMachineModel" "PatchedMachineModel" "height" "I", .lays "PatchedMachineModel" "PatchedMachineModel" "status" "I", .lays "PatchedMachineModel" "PatchedMachineModel" "result" "I", .lays "PatchedMachineModel" "PatchedMachineModel" "frames" "I", .lays "PatchedMachineModel" "PatchedMachineModel" "method" "[I", .lays "PatchedMachineModel" "PatchedMachineModel" "place" "[I", .lays "PatchedMachineModel" "PatchedMachineModel" "locals" "[I", .lays "PatchedMachineModel" "PatchedMachineModel" "stack" "[I", .lays "PatchedMachineModel" "PatchedMachineModel" "sort" "[I", .lays "PatchedMachineModel" "PatchedMachineModel" "top" "[I", .lays "PatchedMachineModel" "PatchedMachineModel" "made" "[I", .lays "PatchedMachineModel" "PatchedMachineModel" "held" "[I", .lays "PatchedMachineModel" "PatchedMachineModel" "led" "[Z", .lays "PatchedMachineModel" "PatchedMachineModel" "fresh" "[I", .lays "PatchedMachineModel" "PatchedMachineModel" "out" "[I", .lays "PatchedMachineModel" "PatchedMachineModel" "outs" "I", .methodLink "PatchedMachineModel" 134 y_M_goes, .code y_M_goes prog_12_method_18_code 5 (some .boolean), .initialized "PatchedMachineModel", .instanceMethod y_M_goes, .selects "PatchedMachineModel" y_M_goes y_M_goes, .methodLink "PatchedMachineModel" 138 y_M_aimedAt, .code y_M_aimedAt prog_12_method_19_code 6 (some .boolean), .instanceMethod y_M_aimedAt, .selects "PatchedMachineModel" y_M_aimedAt y_M_aimedAt, .fieldLink "PatchedMachineModel" 34 "PatchedMachineModel" "op" "[I", .fieldLink "PatchedMachineModel" 31 "PatchedMachineModel" "length" "[I"]
set_option maxRecDepth 100000 in
theorem u_M_bad : ∀ w ∈ t_M_bad, w ∈ am_tb := am_subI [851, 867, 869, 871, 873, 875, 877, 879, 881, 883, 885, 887, 889, 891, 893, 895, 897, 899, 901, 903, 905, 907, 909, 911, 913, 915, 917, 919, 921, 923, 925, 927, 929, 931, 933, 990, 993, 115, 992, 82, 1014, 1017, 1016, 88, 841, 840] (by decide +kernel) (by decide +kernel)
set_option maxRecDepth 100000 in
theorem s_M_bad (l : Launch) : am_Sd l am_cl y_M_bad (am_ws y_M_bad prog_12_method_20_code 4 (some .boolean)) 3 73 f_M_bad :=
  am_meth (by decide +kernel) (Or.inr (Or.inl ⟨rfl, rfl⟩)) rfl (by decide) am_htc g_M_bad (am_ctx (cb := cb_M_bad) t_M_bad [(134, .invokevirtual 134), (138, .invokevirtual 138)] "PatchedMachine" false [114] [] u_M_bad rfl (by decide +kernel) (fun h => by cases h)
    (List.forall_mem_cons.mpr ⟨am_KV (na := 2) u_M_bad (s_M_goes l) rfl (by decide +kernel) (by decide +kernel), (List.forall_mem_cons.mpr ⟨am_KV (na := 2) u_M_bad (s_M_aimedAt l) rfl (by decide +kernel) (by decide +kernel), (fun _ h => absurd h List.not_mem_nil)⟩)⟩) (fun x t h => by cases h) (by decide +kernel))
def t_M_wrong : List Jvm.Cond := [.fieldLink "PatchedMachineModel" 31 "PatchedMachineModel" "length" "[I", .lays "PatchedMachineModel" "PatchedMachineModel" "fields" "[I", .lays "PatchedMachineModel" "PatchedMachineModel" "name" "[I", .lays "PatchedMachineModel" "PatchedMachineModel" "type" "[I", .lays "PatchedMachineModel" "PatchedMachineModel" "source" "[I", .lays "PatchedMachineModel" "PatchedMachineModel" "parameters" "[I", .lays "PatchedMachineModel" "PatchedMachineModel" "kinds" "[I", .lays "PatchedMachineModel" "PatchedMachineModel" "gives" "[I", .lays "PatchedMachineModel" "PatchedMachineModel" "length" "[I", .lays "PatchedMachineModel" "PatchedMachineModel" "op" "[I", .lays "PatchedMachineModel" "PatchedMachineModel" "x" "[I", .lays "PatchedMachineModel" "PatchedMachineModel" "y" "[I", .lays "PatchedMachineModel" "PatchedMachineModel" "classes" "[I", .lays "PatchedMachineModel" "PatchedMachineModel" "methods" "[I", .lays "PatchedMachineModel" "PatchedMachineModel" "barred" "[I", .lays "PatchedMachineModel" "PatchedMachineModel" "waits" "I", .lays "PatchedMachineModel" "PatchedMachineModel" "done" "I", .lays "PatchedMachineModel" "PatchedMachineModel" "moves" "I", .lays "PatchedMachineModel" "PatchedMachineModel" "seen" "[I", .lays "PatchedMachineModel" "PatchedMachineModel" "height" "I", .lays "PatchedMachineModel" "PatchedMachineModel" "status" "I", .lays "PatchedMachineModel" "PatchedMachineModel" "result" "I", .lays "PatchedMachineModel" "PatchedMachineModel" "frames" "I", .lays "PatchedMachineModel" "PatchedMachineModel" "method" "[I", .lays "PatchedMachineModel" "PatchedMachineModel" "place" "[I", .lays "PatchedMachineModel" "PatchedMachineModel" "locals" "[I", .lays "PatchedMachineModel" "PatchedMachineModel" "stack" "[I", .lays "PatchedMachineModel" "PatchedMachineModel" "sort" "[I", .lays "PatchedMachineModel" "PatchedMachineModel" "top" "[I", .lays "PatchedMachineModel" "PatchedMachineModel" "made" "[I", .lays "PatchedMachineModel" "PatchedMachineModel" "held" "[I", .lays "PatchedMachineModel" "PatchedMachineModel" "led" "[Z", .lays "PatchedMachineModel" "PatchedMachineModel" "fresh" "[I", .lays "PatchedMachineModel" "PatchedMachineModel" "out" "[I", .lays "PatchedMachineModel" "PatchedMachineModel" "outs" "I", .methodLink "PatchedMachineModel" 141 y_M_bad, .code y_M_bad prog_12_method_20_code 4 (some .boolean), .initialized "PatchedMachineModel", .instanceMethod y_M_bad, .selects "PatchedMachineModel" y_M_bad y_M_bad]
set_option maxRecDepth 100000 in
theorem u_M_wrong : ∀ w ∈ t_M_wrong, w ∈ am_tb := am_subI [840, 867, 869, 871, 873, 875, 877, 879, 881, 883, 885, 887, 889, 891, 893, 895, 897, 899, 901, 903, 905, 907, 909, 911, 913, 915, 917, 919, 921, 923, 925, 927, 929, 931, 933, 986, 989, 115, 988, 81] (by decide +kernel) (by decide +kernel)
set_option maxRecDepth 100000 in
theorem s_M_wrong (l : Launch) : am_Sd l am_cl y_M_wrong (am_ws y_M_wrong prog_12_method_21_code 3 (some .int)) 4 96 f_M_wrong :=
  am_meth (by decide +kernel) (Or.inl ⟨rfl, rfl⟩) rfl (by decide) am_htc g_M_wrong (am_ctx (cb := cb_M_wrong) t_M_wrong [(141, .invokevirtual 141)] "PatchedMachine" false [] [] u_M_wrong rfl (by decide +kernel) (fun h => by cases h)
    (List.forall_mem_cons.mpr ⟨am_KV (na := 2) u_M_wrong (s_M_bad l) rfl (by decide +kernel) (by decide +kernel), (fun _ h => absurd h List.not_mem_nil)⟩) (fun x t h => by cases h) (by decide +kernel))
def t_M_otherHead : List Jvm.Cond := [.fieldLink "PatchedMachineModel" 97 "PatchedMachineModel" "waits" "I", .lays "PatchedMachineModel" "PatchedMachineModel" "fields" "[I", .lays "PatchedMachineModel" "PatchedMachineModel" "name" "[I", .lays "PatchedMachineModel" "PatchedMachineModel" "type" "[I", .lays "PatchedMachineModel" "PatchedMachineModel" "source" "[I", .lays "PatchedMachineModel" "PatchedMachineModel" "parameters" "[I", .lays "PatchedMachineModel" "PatchedMachineModel" "kinds" "[I", .lays "PatchedMachineModel" "PatchedMachineModel" "gives" "[I", .lays "PatchedMachineModel" "PatchedMachineModel" "length" "[I", .lays "PatchedMachineModel" "PatchedMachineModel" "op" "[I", .lays "PatchedMachineModel" "PatchedMachineModel" "x" "[I", .lays "PatchedMachineModel" "PatchedMachineModel" "y" "[I", .lays "PatchedMachineModel" "PatchedMachineModel" "classes" "[I", .lays "PatchedMachineModel" "PatchedMachineModel" "methods" "[I", .lays "PatchedMachineModel" "PatchedMachineModel" "barred" "[I", .lays "PatchedMachineModel" "PatchedMachineModel" "waits" "I", .lays "PatchedMachineModel" "PatchedMachineModel" "done" "I", .lays "PatchedMachineModel" "PatchedMachineModel" "moves" "I", .lays "PatchedMachineModel" "PatchedMachineModel" "seen" "[I", .lays "PatchedMachineModel" "PatchedMachineModel" "height" "I", .lays "PatchedMachineModel" "PatchedMachineModel" "status" "I", .lays "PatchedMachineModel" "PatchedMachineModel" "result" "I", .lays "PatchedMachineModel" "PatchedMachineModel" "frames" "I", .lays "PatchedMachineModel" "PatchedMachineModel" "method" "[I", .lays "PatchedMachineModel" "PatchedMachineModel" "place" "[I", .lays "PatchedMachineModel" "PatchedMachineModel" "locals" "[I", .lays "PatchedMachineModel" "PatchedMachineModel" "stack" "[I", .lays "PatchedMachineModel" "PatchedMachineModel" "sort" "[I", .lays "PatchedMachineModel" "PatchedMachineModel" "top" "[I", .lays "PatchedMachineModel" "PatchedMachineModel" "made" "[I", .lays "PatchedMachineModel" "PatchedMachineModel" "held" "[I", .lays "PatchedMachineModel" "PatchedMachineModel" "led" "[Z", .lays "PatchedMachineModel" "PatchedMachineModel" "fresh" "[I", .lays "PatchedMachineModel" "PatchedMachineModel" "out" "[I", .lays "PatchedMachineModel" "PatchedMachineModel" "outs" "I", .fieldLink "PatchedMachineModel" 22 "PatchedMachineModel" "parameters" "[I", .fieldLink "PatchedMachineModel" 28 "PatchedMachineModel" "gives" "[I", .methodLink "PatchedMachineModel" 117 y_M_local, .code y_M_local prog_12_method_15_code 3 (some .int), .initialized "PatchedMachineModel", .instanceMethod y_M_local, .selects "PatchedMachineModel" y_M_local y_M_local]
set_option maxRecDepth 100000 in
theorem u_M_otherHead : ∀ w ∈ t_M_otherHead, w ∈ am_tb := am_subI [847, 867, 869, 871, 873, 875, 877, 879, 881, 883, 885, 887, 889, 891, 893, 895, 897, 899, 901, 903, 905, 907, 909, 911, 913, 915, 917, 919, 921, 923, 925, 927, 929, 931, 933, 837, 839, 998, 1001, 115, 1000, 84] (by decide +kernel) (by decide +kernel)
set_option maxRecDepth 100000 in
theorem s_M_otherHead (l : Launch) : am_Sd l am_cl y_M_otherHead (am_ws y_M_otherHead prog_12_method_22_code 6 (some .boolean)) 1 22 f_M_otherHead :=
  am_meth (by decide +kernel) (Or.inr (Or.inl ⟨rfl, rfl⟩)) rfl (by decide) am_htc g_M_otherHead (am_ctx (cb := cb_M_otherHead) t_M_otherHead [(117, .invokevirtual 117)] "PatchedMachine" false [] [] u_M_otherHead rfl (by decide +kernel) (fun h => by cases h)
    (List.forall_mem_cons.mpr ⟨am_KV (na := 2) u_M_otherHead (s_M_local l) rfl (by decide +kernel) (by decide +kernel), (fun _ h => absurd h List.not_mem_nil)⟩) (fun x t h => by cases h) (by decide +kernel))
def t_M_restrictedBy : List Jvm.Cond := [.fieldLink "PatchedMachineModel" 46 "PatchedMachineModel" "methods" "[I", .lays "PatchedMachineModel" "PatchedMachineModel" "fields" "[I", .lays "PatchedMachineModel" "PatchedMachineModel" "name" "[I", .lays "PatchedMachineModel" "PatchedMachineModel" "type" "[I", .lays "PatchedMachineModel" "PatchedMachineModel" "source" "[I", .lays "PatchedMachineModel" "PatchedMachineModel" "parameters" "[I", .lays "PatchedMachineModel" "PatchedMachineModel" "kinds" "[I", .lays "PatchedMachineModel" "PatchedMachineModel" "gives" "[I", .lays "PatchedMachineModel" "PatchedMachineModel" "length" "[I", .lays "PatchedMachineModel" "PatchedMachineModel" "op" "[I", .lays "PatchedMachineModel" "PatchedMachineModel" "x" "[I", .lays "PatchedMachineModel" "PatchedMachineModel" "y" "[I", .lays "PatchedMachineModel" "PatchedMachineModel" "classes" "[I", .lays "PatchedMachineModel" "PatchedMachineModel" "methods" "[I", .lays "PatchedMachineModel" "PatchedMachineModel" "barred" "[I", .lays "PatchedMachineModel" "PatchedMachineModel" "waits" "I", .lays "PatchedMachineModel" "PatchedMachineModel" "done" "I", .lays "PatchedMachineModel" "PatchedMachineModel" "moves" "I", .lays "PatchedMachineModel" "PatchedMachineModel" "seen" "[I", .lays "PatchedMachineModel" "PatchedMachineModel" "height" "I", .lays "PatchedMachineModel" "PatchedMachineModel" "status" "I", .lays "PatchedMachineModel" "PatchedMachineModel" "result" "I", .lays "PatchedMachineModel" "PatchedMachineModel" "frames" "I", .lays "PatchedMachineModel" "PatchedMachineModel" "method" "[I", .lays "PatchedMachineModel" "PatchedMachineModel" "place" "[I", .lays "PatchedMachineModel" "PatchedMachineModel" "locals" "[I", .lays "PatchedMachineModel" "PatchedMachineModel" "stack" "[I", .lays "PatchedMachineModel" "PatchedMachineModel" "sort" "[I", .lays "PatchedMachineModel" "PatchedMachineModel" "top" "[I", .lays "PatchedMachineModel" "PatchedMachineModel" "made" "[I", .lays "PatchedMachineModel" "PatchedMachineModel" "held" "[I", .lays "PatchedMachineModel" "PatchedMachineModel" "led" "[Z", .lays "PatchedMachineModel" "PatchedMachineModel" "fresh" "[I", .lays "PatchedMachineModel" "PatchedMachineModel" "out" "[I", .lays "PatchedMachineModel" "PatchedMachineModel" "outs" "I", .fieldLink "PatchedMachineModel" 97 "PatchedMachineModel" "waits" "I", .fieldLink "PatchedMachineModel" 31 "PatchedMachineModel" "length" "[I", .fieldLink "PatchedMachineModel" 34 "PatchedMachineModel" "op" "[I", .fieldLink "PatchedMachineModel" 43 "PatchedMachineModel" "classes" "[I", .fieldLink "PatchedMachineModel" 37 "PatchedMachineModel" "x" "[I", .methodLink "PatchedMachineModel" 144 y_M_otherHead, .code y_M_otherHead prog_12_method_22_code 6 (some .boolean), .initialized "PatchedMachineModel", .instanceMethod y_M_otherHead, .selects "PatchedMachineModel" y_M_otherHead y_M_otherHead]
set_option maxRecDepth 100000 in
theorem u_M_restrictedBy : ∀ w ∈ t_M_restrictedBy, w ∈ am_tb := am_subI [845, 867, 869, 871, 873, 875, 877, 879, 881, 883, 885, 887, 889, 891, 893, 895, 897, 899, 901, 903, 905, 907, 909, 911, 913, 915, 917, 919, 921, 923, 925, 927, 929, 931, 933, 847, 840, 841, 844, 842, 1022, 1025, 115, 1024, 90] (by decide +kernel) (by decide +kernel)
set_option maxRecDepth 100000 in
theorem s_M_restrictedBy (l : Launch) : am_Sd l am_cl y_M_restrictedBy (am_ws y_M_restrictedBy prog_12_method_23_code 9 (some .int)) 2 47 f_M_restrictedBy :=
  am_meth (by decide +kernel) (Or.inl ⟨rfl, rfl⟩) rfl (by decide) am_htc g_M_restrictedBy (am_ctx (cb := cb_M_restrictedBy) t_M_restrictedBy [(144, .invokevirtual 144)] "PatchedMachine" false [] [] u_M_restrictedBy rfl (by decide +kernel) (fun h => by cases h)
    (List.forall_mem_cons.mpr ⟨am_KV (na := 1) u_M_restrictedBy (s_M_otherHead l) rfl (by decide +kernel) (by decide +kernel), (fun _ h => absurd h List.not_mem_nil)⟩) (fun x t h => by cases h) (by decide +kernel))
def t_M_free : List Jvm.Cond := [.fieldLink "PatchedMachineModel" 157 "PatchedMachineModel" "frames" "I", .lays "PatchedMachineModel" "PatchedMachineModel" "fields" "[I", .lays "PatchedMachineModel" "PatchedMachineModel" "name" "[I", .lays "PatchedMachineModel" "PatchedMachineModel" "type" "[I", .lays "PatchedMachineModel" "PatchedMachineModel" "source" "[I", .lays "PatchedMachineModel" "PatchedMachineModel" "parameters" "[I", .lays "PatchedMachineModel" "PatchedMachineModel" "kinds" "[I", .lays "PatchedMachineModel" "PatchedMachineModel" "gives" "[I", .lays "PatchedMachineModel" "PatchedMachineModel" "length" "[I", .lays "PatchedMachineModel" "PatchedMachineModel" "op" "[I", .lays "PatchedMachineModel" "PatchedMachineModel" "x" "[I", .lays "PatchedMachineModel" "PatchedMachineModel" "y" "[I", .lays "PatchedMachineModel" "PatchedMachineModel" "classes" "[I", .lays "PatchedMachineModel" "PatchedMachineModel" "methods" "[I", .lays "PatchedMachineModel" "PatchedMachineModel" "barred" "[I", .lays "PatchedMachineModel" "PatchedMachineModel" "waits" "I", .lays "PatchedMachineModel" "PatchedMachineModel" "done" "I", .lays "PatchedMachineModel" "PatchedMachineModel" "moves" "I", .lays "PatchedMachineModel" "PatchedMachineModel" "seen" "[I", .lays "PatchedMachineModel" "PatchedMachineModel" "height" "I", .lays "PatchedMachineModel" "PatchedMachineModel" "status" "I", .lays "PatchedMachineModel" "PatchedMachineModel" "result" "I", .lays "PatchedMachineModel" "PatchedMachineModel" "frames" "I", .lays "PatchedMachineModel" "PatchedMachineModel" "method" "[I", .lays "PatchedMachineModel" "PatchedMachineModel" "place" "[I", .lays "PatchedMachineModel" "PatchedMachineModel" "locals" "[I", .lays "PatchedMachineModel" "PatchedMachineModel" "stack" "[I", .lays "PatchedMachineModel" "PatchedMachineModel" "sort" "[I", .lays "PatchedMachineModel" "PatchedMachineModel" "top" "[I", .lays "PatchedMachineModel" "PatchedMachineModel" "made" "[I", .lays "PatchedMachineModel" "PatchedMachineModel" "held" "[I", .lays "PatchedMachineModel" "PatchedMachineModel" "led" "[Z", .lays "PatchedMachineModel" "PatchedMachineModel" "fresh" "[I", .lays "PatchedMachineModel" "PatchedMachineModel" "out" "[I", .lays "PatchedMachineModel" "PatchedMachineModel" "outs" "I", .fieldLink "PatchedMachineModel" 49 "PatchedMachineModel" "barred" "[I", .fieldLink "PatchedMachineModel" 55 "PatchedMachineModel" "method" "[I"]
set_option maxRecDepth 100000 in
theorem u_M_free : ∀ w ∈ t_M_free, w ∈ am_tb := am_subI [854, 867, 869, 871, 873, 875, 877, 879, 881, 883, 885, 887, 889, 891, 893, 895, 897, 899, 901, 903, 905, 907, 909, 911, 913, 915, 917, 919, 921, 923, 925, 927, 929, 931, 933, 846, 855] (by decide +kernel) (by decide +kernel)
set_option maxRecDepth 100000 in
theorem s_M_free (l : Launch) : am_Sd l am_cl y_M_free (am_ws y_M_free prog_12_method_25_code 3 (some .boolean)) 0 0 f_M_free :=
  am_meth (by decide +kernel) (Or.inr (Or.inl ⟨rfl, rfl⟩)) rfl (by decide) am_htc g_M_free (am_ctx (cb := cb_M_free) t_M_free [] "PatchedMachine" false [] [] u_M_free rfl (by decide +kernel) (fun h => by cases h)
    (fun _ h => absurd h List.not_mem_nil) (fun x t h => by cases h) (by decide +kernel))
def t_M_collect : List Jvm.Cond := [.fieldLink "PatchedMachineModel" 79 "PatchedMachineModel" "led" "[Z", .lays "PatchedMachineModel" "PatchedMachineModel" "fields" "[I", .lays "PatchedMachineModel" "PatchedMachineModel" "name" "[I", .lays "PatchedMachineModel" "PatchedMachineModel" "type" "[I", .lays "PatchedMachineModel" "PatchedMachineModel" "source" "[I", .lays "PatchedMachineModel" "PatchedMachineModel" "parameters" "[I", .lays "PatchedMachineModel" "PatchedMachineModel" "kinds" "[I", .lays "PatchedMachineModel" "PatchedMachineModel" "gives" "[I", .lays "PatchedMachineModel" "PatchedMachineModel" "length" "[I", .lays "PatchedMachineModel" "PatchedMachineModel" "op" "[I", .lays "PatchedMachineModel" "PatchedMachineModel" "x" "[I", .lays "PatchedMachineModel" "PatchedMachineModel" "y" "[I", .lays "PatchedMachineModel" "PatchedMachineModel" "classes" "[I", .lays "PatchedMachineModel" "PatchedMachineModel" "methods" "[I", .lays "PatchedMachineModel" "PatchedMachineModel" "barred" "[I", .lays "PatchedMachineModel" "PatchedMachineModel" "waits" "I", .lays "PatchedMachineModel" "PatchedMachineModel" "done" "I", .lays "PatchedMachineModel" "PatchedMachineModel" "moves" "I", .lays "PatchedMachineModel" "PatchedMachineModel" "seen" "[I", .lays "PatchedMachineModel" "PatchedMachineModel" "height" "I", .lays "PatchedMachineModel" "PatchedMachineModel" "status" "I", .lays "PatchedMachineModel" "PatchedMachineModel" "result" "I", .lays "PatchedMachineModel" "PatchedMachineModel" "frames" "I", .lays "PatchedMachineModel" "PatchedMachineModel" "method" "[I", .lays "PatchedMachineModel" "PatchedMachineModel" "place" "[I", .lays "PatchedMachineModel" "PatchedMachineModel" "locals" "[I", .lays "PatchedMachineModel" "PatchedMachineModel" "stack" "[I", .lays "PatchedMachineModel" "PatchedMachineModel" "sort" "[I", .lays "PatchedMachineModel" "PatchedMachineModel" "top" "[I", .lays "PatchedMachineModel" "PatchedMachineModel" "made" "[I", .lays "PatchedMachineModel" "PatchedMachineModel" "held" "[I", .lays "PatchedMachineModel" "PatchedMachineModel" "led" "[Z", .lays "PatchedMachineModel" "PatchedMachineModel" "fresh" "[I", .lays "PatchedMachineModel" "PatchedMachineModel" "out" "[I", .lays "PatchedMachineModel" "PatchedMachineModel" "outs" "I", .fieldLink "PatchedMachineModel" 157 "PatchedMachineModel" "frames" "I", .fieldLink "PatchedMachineModel" 55 "PatchedMachineModel" "method" "[I", .methodLink "PatchedMachineModel" 117 y_M_local, .code y_M_local prog_12_method_15_code 3 (some .int), .initialized "PatchedMachineModel", .instanceMethod y_M_local, .selects "PatchedMachineModel" y_M_local y_M_local, .fieldLink "PatchedMachineModel" 61 "PatchedMachineModel" "locals" "[I", .fieldLink "PatchedMachineModel" 70 "PatchedMachineModel" "top" "[I", .fieldLink "PatchedMachineModel" 67 "PatchedMachineModel" "sort" "[I", .fieldLink "PatchedMachineModel" 64 "PatchedMachineModel" "stack" "[I", .fieldLink "PatchedMachineModel" 73 "PatchedMachineModel" "made" "[I", .fieldLink "PatchedMachineModel" 7 "PatchedMachineModel" "fields" "[I", .methodLink "PatchedMachineModel" 101 y_M_typeOf, .code y_M_typeOf prog_12_method_5_code 4 (some .int), .instanceMethod y_M_typeOf, .selects "PatchedMachineModel" y_M_typeOf y_M_typeOf, .fieldLink "PatchedMachineModel" 76 "PatchedMachineModel" "held" "[I"]
set_option maxRecDepth 100000 in
theorem u_M_collect : ∀ w ∈ t_M_collect, w ∈ am_tb := am_subI [863, 867, 869, 871, 873, 875, 877, 879, 881, 883, 885, 887, 889, 891, 893, 895, 897, 899, 901, 903, 905, 907, 909, 911, 913, 915, 917, 919, 921, 923, 925, 927, 929, 931, 933, 854, 855, 998, 1001, 115, 1000, 84, 857, 860, 859, 858, 861, 833, 951, 954, 953, 77, 862] (by decide +kernel) (by decide +kernel)
set_option maxRecDepth 100000 in
theorem s_M_collect (l : Launch) : am_Sd l am_cl y_M_collect (am_ws y_M_collect prog_12_method_33_code 4 none) 1 23 f_M_collect :=
  am_meth (by decide +kernel) (Or.inr (Or.inr (Or.inl ⟨rfl, rfl⟩))) rfl (by decide) am_htc g_M_collect (am_ctx (cb := cb_M_collect) t_M_collect [(117, .invokevirtual 117), (101, .invokevirtual 101)] "PatchedMachine" false [] [] u_M_collect rfl (by decide +kernel) (fun h => by cases h)
    (List.forall_mem_cons.mpr ⟨am_KV (na := 2) u_M_collect (s_M_local l) rfl (by decide +kernel) (by decide +kernel), (List.forall_mem_cons.mpr ⟨am_KV (na := 3) u_M_collect (s_M_typeOf l) rfl (by decide +kernel) (by decide +kernel), (fun _ h => absurd h List.not_mem_nil)⟩)⟩) (fun x t h => by cases h) (by decide +kernel))
def t_M_transform : List Jvm.Cond := [.fieldLink "PatchedMachineModel" 7 "PatchedMachineModel" "fields" "[I", .lays "PatchedMachineModel" "PatchedMachineModel" "fields" "[I", .lays "PatchedMachineModel" "PatchedMachineModel" "name" "[I", .lays "PatchedMachineModel" "PatchedMachineModel" "type" "[I", .lays "PatchedMachineModel" "PatchedMachineModel" "source" "[I", .lays "PatchedMachineModel" "PatchedMachineModel" "parameters" "[I", .lays "PatchedMachineModel" "PatchedMachineModel" "kinds" "[I", .lays "PatchedMachineModel" "PatchedMachineModel" "gives" "[I", .lays "PatchedMachineModel" "PatchedMachineModel" "length" "[I", .lays "PatchedMachineModel" "PatchedMachineModel" "op" "[I", .lays "PatchedMachineModel" "PatchedMachineModel" "x" "[I", .lays "PatchedMachineModel" "PatchedMachineModel" "y" "[I", .lays "PatchedMachineModel" "PatchedMachineModel" "classes" "[I", .lays "PatchedMachineModel" "PatchedMachineModel" "methods" "[I", .lays "PatchedMachineModel" "PatchedMachineModel" "barred" "[I", .lays "PatchedMachineModel" "PatchedMachineModel" "waits" "I", .lays "PatchedMachineModel" "PatchedMachineModel" "done" "I", .lays "PatchedMachineModel" "PatchedMachineModel" "moves" "I", .lays "PatchedMachineModel" "PatchedMachineModel" "seen" "[I", .lays "PatchedMachineModel" "PatchedMachineModel" "height" "I", .lays "PatchedMachineModel" "PatchedMachineModel" "status" "I", .lays "PatchedMachineModel" "PatchedMachineModel" "result" "I", .lays "PatchedMachineModel" "PatchedMachineModel" "frames" "I", .lays "PatchedMachineModel" "PatchedMachineModel" "method" "[I", .lays "PatchedMachineModel" "PatchedMachineModel" "place" "[I", .lays "PatchedMachineModel" "PatchedMachineModel" "locals" "[I", .lays "PatchedMachineModel" "PatchedMachineModel" "stack" "[I", .lays "PatchedMachineModel" "PatchedMachineModel" "sort" "[I", .lays "PatchedMachineModel" "PatchedMachineModel" "top" "[I", .lays "PatchedMachineModel" "PatchedMachineModel" "made" "[I", .lays "PatchedMachineModel" "PatchedMachineModel" "held" "[I", .lays "PatchedMachineModel" "PatchedMachineModel" "led" "[Z", .lays "PatchedMachineModel" "PatchedMachineModel" "fresh" "[I", .lays "PatchedMachineModel" "PatchedMachineModel" "out" "[I", .lays "PatchedMachineModel" "PatchedMachineModel" "outs" "I", .fieldLink "PatchedMachineModel" 19 "PatchedMachineModel" "source" "[I", .methodLink "PatchedMachineModel" 93 y_M_find, .code y_M_find prog_12_method_4_code 5 (some .int), .initialized "PatchedMachineModel", .instanceMethod y_M_find, .selects "PatchedMachineModel" y_M_find y_M_find, .fieldLink "PatchedMachineModel" 83 "PatchedMachineModel" "fresh" "[I", .fieldLink "PatchedMachineModel" 76 "PatchedMachineModel" "held" "[I"]
set_option maxRecDepth 100000 in
theorem u_M_transform : ∀ w ∈ t_M_transform, w ∈ am_tb := am_subI [833, 867, 869, 871, 873, 875, 877, 879, 881, 883, 885, 887, 889, 891, 893, 895, 897, 899, 901, 903, 905, 907, 909, 911, 913, 915, 917, 919, 921, 923, 925, 927, 929, 931, 933, 836, 947, 950, 115, 949, 76, 864, 862] (by decide +kernel) (by decide +kernel)
set_option maxRecDepth 100000 in
theorem s_M_transform (l : Launch) : am_Sd l am_cl y_M_transform (am_ws y_M_transform prog_12_method_28_code 6 none) 1 24 f_M_transform :=
  am_meth (by decide +kernel) (Or.inr (Or.inr (Or.inl ⟨rfl, rfl⟩))) rfl (by decide) am_htc g_M_transform (am_ctx (cb := cb_M_transform) t_M_transform [(93, .invokevirtual 93)] "PatchedMachine" false [] [] u_M_transform rfl (by decide +kernel) (fun h => by cases h)
    (List.forall_mem_cons.mpr ⟨am_KV (na := 3) u_M_transform (s_M_find l) rfl (by decide +kernel) (by decide +kernel), (fun _ h => absurd h List.not_mem_nil)⟩) (fun x t h => by cases h) (by decide +kernel))
def t_M_apply : List Jvm.Cond := [.methodLink "PatchedMachineModel" 167 y_M_collect, .code y_M_collect prog_12_method_33_code 4 none, .initialized "PatchedMachineModel", .instanceMethod y_M_collect, .selects "PatchedMachineModel" y_M_collect y_M_collect, .fieldLink "PatchedMachineModel" 73 "PatchedMachineModel" "made" "[I", .lays "PatchedMachineModel" "PatchedMachineModel" "fields" "[I", .lays "PatchedMachineModel" "PatchedMachineModel" "name" "[I", .lays "PatchedMachineModel" "PatchedMachineModel" "type" "[I", .lays "PatchedMachineModel" "PatchedMachineModel" "source" "[I", .lays "PatchedMachineModel" "PatchedMachineModel" "parameters" "[I", .lays "PatchedMachineModel" "PatchedMachineModel" "kinds" "[I", .lays "PatchedMachineModel" "PatchedMachineModel" "gives" "[I", .lays "PatchedMachineModel" "PatchedMachineModel" "length" "[I", .lays "PatchedMachineModel" "PatchedMachineModel" "op" "[I", .lays "PatchedMachineModel" "PatchedMachineModel" "x" "[I", .lays "PatchedMachineModel" "PatchedMachineModel" "y" "[I", .lays "PatchedMachineModel" "PatchedMachineModel" "classes" "[I", .lays "PatchedMachineModel" "PatchedMachineModel" "methods" "[I", .lays "PatchedMachineModel" "PatchedMachineModel" "barred" "[I", .lays "PatchedMachineModel" "PatchedMachineModel" "waits" "I", .lays "PatchedMachineModel" "PatchedMachineModel" "done" "I", .lays "PatchedMachineModel" "PatchedMachineModel" "moves" "I", .lays "PatchedMachineModel" "PatchedMachineModel" "seen" "[I", .lays "PatchedMachineModel" "PatchedMachineModel" "height" "I", .lays "PatchedMachineModel" "PatchedMachineModel" "status" "I", .lays "PatchedMachineModel" "PatchedMachineModel" "result" "I", .lays "PatchedMachineModel" "PatchedMachineModel" "frames" "I", .lays "PatchedMachineModel" "PatchedMachineModel" "method" "[I", .lays "PatchedMachineModel" "PatchedMachineModel" "place" "[I", .lays "PatchedMachineModel" "PatchedMachineModel" "locals" "[I", .lays "PatchedMachineModel" "PatchedMachineModel" "stack" "[I", .lays "PatchedMachineModel" "PatchedMachineModel" "sort" "[I", .lays "PatchedMachineModel" "PatchedMachineModel" "top" "[I", .lays "PatchedMachineModel" "PatchedMachineModel" "made" "[I", .lays "PatchedMachineModel" "PatchedMachineModel" "held" "[I", .lays "PatchedMachineModel" "PatchedMachineModel" "led" "[Z", .lays "PatchedMachineModel" "PatchedMachineModel" "fresh" "[I", .lays "PatchedMachineModel" "PatchedMachineModel" "out" "[I", .lays "PatchedMachineModel" "PatchedMachineModel" "outs" "I", .fieldLink "PatchedMachineModel" 43 "PatchedMachineModel" "classes" "[I", .methodLink "PatchedMachineModel" 170 y_M_transform, .code y_M_transform prog_12_method_28_code 6 none, .instanceMethod y_M_transform, .selects "PatchedMachineModel" y_M_transform y_M_transform, .fieldLink "PatchedMachineModel" 173 "PatchedMachineModel" "moves" "I", .methodLink "PatchedMachineModel" 107 y_M_copy, .code y_M_copy prog_12_method_3_code 7 none, .instanceMethod y_M_copy, .selects "PatchedMachineModel" y_M_copy y_M_copy, .fieldLink "PatchedMachineModel" 97 "PatchedMachineModel" "waits" "I", .fieldLink "PatchedMachineModel" 176 "PatchedMachineModel" "done" "I"]
set_option maxRecDepth 100000 in
theorem u_M_apply : ∀ w ∈ t_M_apply, w ∈ am_tb := am_subI [1038, 1041, 115, 1040, 94, 861, 867, 869, 871, 873, 875, 877, 879, 881, 883, 885, 887, 889, 891, 893, 895, 897, 899, 901, 903, 905, 907, 909, 911, 913, 915, 917, 919, 921, 923, 925, 927, 929, 931, 933, 844, 1042, 1045, 1044, 95, 849, 974, 977, 976, 79, 847, 848] (by decide +kernel) (by decide +kernel)
set_option maxRecDepth 100000 in
theorem s_M_apply (l : Launch) : am_Sd l am_cl y_M_apply (am_ws y_M_apply prog_12_method_27_code 2 none) 2 49 f_M_apply :=
  am_meth (by decide +kernel) (Or.inr (Or.inr (Or.inl ⟨rfl, rfl⟩))) rfl (by decide) am_htc g_M_apply (am_ctx (cb := cb_M_apply) t_M_apply [(167, .invokevirtual 167), (170, .invokevirtual 170), (107, .invokevirtual 107)] "PatchedMachine" false [173, 97, 176] [] u_M_apply rfl (by decide +kernel) (fun h => by cases h)
    (List.forall_mem_cons.mpr ⟨am_KV (na := 0) u_M_apply (s_M_collect l) rfl (by decide +kernel) (by decide +kernel), (List.forall_mem_cons.mpr ⟨am_KV (na := 2) u_M_apply (s_M_transform l) rfl (by decide +kernel) (by decide +kernel), (List.forall_mem_cons.mpr ⟨am_KV (na := 2) u_M_apply (s_M_copy l) rfl (by decide +kernel) (by decide +kernel), (fun _ h => absurd h List.not_mem_nil)⟩)⟩)⟩) (fun x t h => by cases h) (by decide +kernel))
def t_M_settle : List Jvm.Cond := [.fieldLink "PatchedMachineModel" 97 "PatchedMachineModel" "waits" "I", .lays "PatchedMachineModel" "PatchedMachineModel" "fields" "[I", .lays "PatchedMachineModel" "PatchedMachineModel" "name" "[I", .lays "PatchedMachineModel" "PatchedMachineModel" "type" "[I", .lays "PatchedMachineModel" "PatchedMachineModel" "source" "[I", .lays "PatchedMachineModel" "PatchedMachineModel" "parameters" "[I", .lays "PatchedMachineModel" "PatchedMachineModel" "kinds" "[I", .lays "PatchedMachineModel" "PatchedMachineModel" "gives" "[I", .lays "PatchedMachineModel" "PatchedMachineModel" "length" "[I", .lays "PatchedMachineModel" "PatchedMachineModel" "op" "[I", .lays "PatchedMachineModel" "PatchedMachineModel" "x" "[I", .lays "PatchedMachineModel" "PatchedMachineModel" "y" "[I", .lays "PatchedMachineModel" "PatchedMachineModel" "classes" "[I", .lays "PatchedMachineModel" "PatchedMachineModel" "methods" "[I", .lays "PatchedMachineModel" "PatchedMachineModel" "barred" "[I", .lays "PatchedMachineModel" "PatchedMachineModel" "waits" "I", .lays "PatchedMachineModel" "PatchedMachineModel" "done" "I", .lays "PatchedMachineModel" "PatchedMachineModel" "moves" "I", .lays "PatchedMachineModel" "PatchedMachineModel" "seen" "[I", .lays "PatchedMachineModel" "PatchedMachineModel" "height" "I", .lays "PatchedMachineModel" "PatchedMachineModel" "status" "I", .lays "PatchedMachineModel" "PatchedMachineModel" "result" "I", .lays "PatchedMachineModel" "PatchedMachineModel" "frames" "I", .lays "PatchedMachineModel" "PatchedMachineModel" "method" "[I", .lays "PatchedMachineModel" "PatchedMachineModel" "place" "[I", .lays "PatchedMachineModel" "PatchedMachineModel" "locals" "[I", .lays "PatchedMachineModel" "PatchedMachineModel" "stack" "[I", .lays "PatchedMachineModel" "PatchedMachineModel" "sort" "[I", .lays "PatchedMachineModel" "PatchedMachineModel" "top" "[I", .lays "PatchedMachineModel" "PatchedMachineModel" "made" "[I", .lays "PatchedMachineModel" "PatchedMachineModel" "held" "[I", .lays "PatchedMachineModel" "PatchedMachineModel" "led" "[Z", .lays "PatchedMachineModel" "PatchedMachineModel" "fresh" "[I", .lays "PatchedMachineModel" "PatchedMachineModel" "out" "[I", .lays "PatchedMachineModel" "PatchedMachineModel" "outs" "I", .methodLink "PatchedMachineModel" 160 y_M_free, .code y_M_free prog_12_method_25_code 3 (some .boolean), .initialized "PatchedMachineModel", .instanceMethod y_M_free, .selects "PatchedMachineModel" y_M_free y_M_free, .methodLink "PatchedMachineModel" 164 y_M_apply, .code y_M_apply prog_12_method_27_code 2 none, .instanceMethod y_M_apply, .selects "PatchedMachineModel" y_M_apply y_M_apply]
set_option maxRecDepth 100000 in
theorem u_M_settle : ∀ w ∈ t_M_settle, w ∈ am_tb := am_subI [847, 867, 869, 871, 873, 875, 877, 879, 881, 883, 885, 887, 889, 891, 893, 895, 897, 899, 901, 903, 905, 907, 909, 911, 913, 915, 917, 919, 921, 923, 925, 927, 929, 931, 933, 1030, 1033, 115, 1032, 92, 1034, 1037, 1036, 93] (by decide +kernel) (by decide +kernel)
set_option maxRecDepth 100000 in
theorem s_M_settle (l : Launch) : am_Sd l am_cl y_M_settle (am_ws y_M_settle prog_12_method_26_code 2 none) 3 70 f_M_settle :=
  am_meth (by decide +kernel) (Or.inr (Or.inr (Or.inl ⟨rfl, rfl⟩))) rfl (by decide) am_htc g_M_settle (am_ctx (cb := cb_M_settle) t_M_settle [(160, .invokevirtual 160), (164, .invokevirtual 164)] "PatchedMachine" false [] [] u_M_settle rfl (by decide +kernel) (fun h => by cases h)
    (List.forall_mem_cons.mpr ⟨am_KV (na := 0) u_M_settle (s_M_free l) rfl (by decide +kernel) (by decide +kernel), (List.forall_mem_cons.mpr ⟨am_KV (na := 0) u_M_settle (s_M_apply l) rfl (by decide +kernel) (by decide +kernel), (fun _ h => absurd h List.not_mem_nil)⟩)⟩) (fun x t h => by cases h) (by decide +kernel))
end
section
/-! printed by gen.py: contracts -/
def t_M_commit : List Jvm.Cond := [.fieldLink "PatchedMachineModel" 43 "PatchedMachineModel" "classes" "[I", .lays "PatchedMachineModel" "PatchedMachineModel" "fields" "[I", .lays "PatchedMachineModel" "PatchedMachineModel" "name" "[I", .lays "PatchedMachineModel" "PatchedMachineModel" "type" "[I", .lays "PatchedMachineModel" "PatchedMachineModel" "source" "[I", .lays "PatchedMachineModel" "PatchedMachineModel" "parameters" "[I", .lays "PatchedMachineModel" "PatchedMachineModel" "kinds" "[I", .lays "PatchedMachineModel" "PatchedMachineModel" "gives" "[I", .lays "PatchedMachineModel" "PatchedMachineModel" "length" "[I", .lays "PatchedMachineModel" "PatchedMachineModel" "op" "[I", .lays "PatchedMachineModel" "PatchedMachineModel" "x" "[I", .lays "PatchedMachineModel" "PatchedMachineModel" "y" "[I", .lays "PatchedMachineModel" "PatchedMachineModel" "classes" "[I", .lays "PatchedMachineModel" "PatchedMachineModel" "methods" "[I", .lays "PatchedMachineModel" "PatchedMachineModel" "barred" "[I", .lays "PatchedMachineModel" "PatchedMachineModel" "waits" "I", .lays "PatchedMachineModel" "PatchedMachineModel" "done" "I", .lays "PatchedMachineModel" "PatchedMachineModel" "moves" "I", .lays "PatchedMachineModel" "PatchedMachineModel" "seen" "[I", .lays "PatchedMachineModel" "PatchedMachineModel" "height" "I", .lays "PatchedMachineModel" "PatchedMachineModel" "status" "I", .lays "PatchedMachineModel" "PatchedMachineModel" "result" "I", .lays "PatchedMachineModel" "PatchedMachineModel" "frames" "I", .lays "PatchedMachineModel" "PatchedMachineModel" "method" "[I", .lays "PatchedMachineModel" "PatchedMachineModel" "place" "[I", .lays "PatchedMachineModel" "PatchedMachineModel" "locals" "[I", .lays "PatchedMachineModel" "PatchedMachineModel" "stack" "[I", .lays "PatchedMachineModel" "PatchedMachineModel" "sort" "[I", .lays "PatchedMachineModel" "PatchedMachineModel" "top" "[I", .lays "PatchedMachineModel" "PatchedMachineModel" "made" "[I", .lays "PatchedMachineModel" "PatchedMachineModel" "held" "[I", .lays "PatchedMachineModel" "PatchedMachineModel" "led" "[Z", .lays "PatchedMachineModel" "PatchedMachineModel" "fresh" "[I", .lays "PatchedMachineModel" "PatchedMachineModel" "out" "[I", .lays "PatchedMachineModel" "PatchedMachineModel" "outs" "I", .fieldLink "PatchedMachineModel" 46 "PatchedMachineModel" "methods" "[I", .fieldLink "PatchedMachineModel" 97 "PatchedMachineModel" "waits" "I", .methodLink "PatchedMachineModel" 147 y_M_wrong, .code y_M_wrong prog_12_method_21_code 3 (some .int), .initialized "PatchedMachineModel", .instanceMethod y_M_wrong, .selects "PatchedMachineModel" y_M_wrong y_M_wrong, .fieldLink "PatchedMachineModel" 49 "PatchedMachineModel" "barred" "[I", .methodLink "PatchedMachineModel" 151 y_M_restrictedBy, .code y_M_restrictedBy prog_12_method_23_code 9 (some .int), .instanceMethod y_M_restrictedBy, .selects "PatchedMachineModel" y_M_restrictedBy y_M_restrictedBy, .methodLink "PatchedMachineModel" 107 y_M_copy, .code y_M_copy prog_12_method_3_code 7 none, .instanceMethod y_M_copy, .selects "PatchedMachineModel" y_M_copy y_M_copy, .methodLink "PatchedMachineModel" 111 y_M_renew, .code y_M_renew prog_12_method_11_code 1 none, .instanceMethod y_M_renew, .selects "PatchedMachineModel" y_M_renew y_M_renew, .methodLink "PatchedMachineModel" 154 y_M_settle, .code y_M_settle prog_12_method_26_code 2 none, .instanceMethod y_M_settle, .selects "PatchedMachineModel" y_M_settle y_M_settle]
set_option maxRecDepth 100000 in
theorem u_M_commit : ∀ w ∈ t_M_commit, w ∈ am_tb := am_subI [844, 867, 869, 871, 873, 875, 877, 879, 881, 883, 885, 887, 889, 891, 893, 895, 897, 899, 901, 903, 905, 907, 909, 911, 913, 915, 917, 919, 921, 923, 925, 927, 929, 931, 933, 845, 847, 982, 985, 115, 984, 80, 846, 1018, 1021, 1020, 89, 974, 977, 976, 79, 970, 973, 972, 78, 1026, 1029, 1028, 91] (by decide +kernel) (by decide +kernel)
set_option maxRecDepth 100000 in
theorem s_M_commit (l : Launch) : am_Sd l am_cl y_M_commit (am_ws y_M_commit prog_12_method_24_code 2 (some .int)) 5 118 f_M_commit :=
  am_meth (by decide +kernel) (Or.inl ⟨rfl, rfl⟩) rfl (by decide) am_htc g_M_commit (am_ctx (cb := cb_M_commit) t_M_commit [(147, .invokevirtual 147), (151, .invokevirtual 151), (107, .invokevirtual 107), (111, .invokevirtual 111), (154, .invokevirtual 154)] "PatchedMachine" false [97] [] u_M_commit rfl (by decide +kernel) (fun h => by cases h)
    (List.forall_mem_cons.mpr ⟨am_KV (na := 0) u_M_commit (s_M_wrong l) rfl (by decide +kernel) (by decide +kernel), (List.forall_mem_cons.mpr ⟨am_KV (na := 0) u_M_commit (s_M_restrictedBy l) rfl (by decide +kernel) (by decide +kernel), (List.forall_mem_cons.mpr ⟨am_KV (na := 2) u_M_commit (s_M_copy l) rfl (by decide +kernel) (by decide +kernel), (List.forall_mem_cons.mpr ⟨am_KV (na := 0) u_M_commit (s_M_renew l) rfl (by decide +kernel) (by decide +kernel), (List.forall_mem_cons.mpr ⟨am_KV (na := 0) u_M_commit (s_M_settle l) rfl (by decide +kernel) (by decide +kernel), (fun _ h => absurd h List.not_mem_nil)⟩)⟩)⟩)⟩)⟩) (fun x t h => by cases h) (by decide +kernel))
def t_M_waiting : List Jvm.Cond := [.fieldLink "PatchedMachineModel" 97 "PatchedMachineModel" "waits" "I", .lays "PatchedMachineModel" "PatchedMachineModel" "fields" "[I", .lays "PatchedMachineModel" "PatchedMachineModel" "name" "[I", .lays "PatchedMachineModel" "PatchedMachineModel" "type" "[I", .lays "PatchedMachineModel" "PatchedMachineModel" "source" "[I", .lays "PatchedMachineModel" "PatchedMachineModel" "parameters" "[I", .lays "PatchedMachineModel" "PatchedMachineModel" "kinds" "[I", .lays "PatchedMachineModel" "PatchedMachineModel" "gives" "[I", .lays "PatchedMachineModel" "PatchedMachineModel" "length" "[I", .lays "PatchedMachineModel" "PatchedMachineModel" "op" "[I", .lays "PatchedMachineModel" "PatchedMachineModel" "x" "[I", .lays "PatchedMachineModel" "PatchedMachineModel" "y" "[I", .lays "PatchedMachineModel" "PatchedMachineModel" "classes" "[I", .lays "PatchedMachineModel" "PatchedMachineModel" "methods" "[I", .lays "PatchedMachineModel" "PatchedMachineModel" "barred" "[I", .lays "PatchedMachineModel" "PatchedMachineModel" "waits" "I", .lays "PatchedMachineModel" "PatchedMachineModel" "done" "I", .lays "PatchedMachineModel" "PatchedMachineModel" "moves" "I", .lays "PatchedMachineModel" "PatchedMachineModel" "seen" "[I", .lays "PatchedMachineModel" "PatchedMachineModel" "height" "I", .lays "PatchedMachineModel" "PatchedMachineModel" "status" "I", .lays "PatchedMachineModel" "PatchedMachineModel" "result" "I", .lays "PatchedMachineModel" "PatchedMachineModel" "frames" "I", .lays "PatchedMachineModel" "PatchedMachineModel" "method" "[I", .lays "PatchedMachineModel" "PatchedMachineModel" "place" "[I", .lays "PatchedMachineModel" "PatchedMachineModel" "locals" "[I", .lays "PatchedMachineModel" "PatchedMachineModel" "stack" "[I", .lays "PatchedMachineModel" "PatchedMachineModel" "sort" "[I", .lays "PatchedMachineModel" "PatchedMachineModel" "top" "[I", .lays "PatchedMachineModel" "PatchedMachineModel" "made" "[I", .lays "PatchedMachineModel" "PatchedMachineModel" "held" "[I", .lays "PatchedMachineModel" "PatchedMachineModel" "led" "[Z", .lays "PatchedMachineModel" "PatchedMachineModel" "fresh" "[I", .lays "PatchedMachineModel" "PatchedMachineModel" "out" "[I", .lays "PatchedMachineModel" "PatchedMachineModel" "outs" "I"]
set_option maxRecDepth 100000 in
theorem u_M_waiting : ∀ w ∈ t_M_waiting, w ∈ am_tb := am_subI [847, 867, 869, 871, 873, 875, 877, 879, 881, 883, 885, 887, 889, 891, 893, 895, 897, 899, 901, 903, 905, 907, 909, 911, 913, 915, 917, 919, 921, 923, 925, 927, 929, 931, 933] (by decide +kernel) (by decide +kernel)
set_option maxRecDepth 100000 in
theorem s_M_waiting (l : Launch) : am_Sd l am_cl y_M_waiting (am_ws y_M_waiting prog_12_method_29_code 1 (some .int)) 0 0 f_M_waiting :=
  am_meth (by decide +kernel) (Or.inl ⟨rfl, rfl⟩) rfl (by decide) am_htc g_M_waiting (am_ctx (cb := cb_M_waiting) t_M_waiting [] "PatchedMachine" false [] [] u_M_waiting rfl (by decide +kernel) (fun h => by cases h)
    (fun _ h => absurd h List.not_mem_nil) (fun x t h => by cases h) (by decide +kernel))
def t_M_restricted : List Jvm.Cond := [.fieldLink "PatchedMachineModel" 97 "PatchedMachineModel" "waits" "I", .lays "PatchedMachineModel" "PatchedMachineModel" "fields" "[I", .lays "PatchedMachineModel" "PatchedMachineModel" "name" "[I", .lays "PatchedMachineModel" "PatchedMachineModel" "type" "[I", .lays "PatchedMachineModel" "PatchedMachineModel" "source" "[I", .lays "PatchedMachineModel" "PatchedMachineModel" "parameters" "[I", .lays "PatchedMachineModel" "PatchedMachineModel" "kinds" "[I", .lays "PatchedMachineModel" "PatchedMachineModel" "gives" "[I", .lays "PatchedMachineModel" "PatchedMachineModel" "length" "[I", .lays "PatchedMachineModel" "PatchedMachineModel" "op" "[I", .lays "PatchedMachineModel" "PatchedMachineModel" "x" "[I", .lays "PatchedMachineModel" "PatchedMachineModel" "y" "[I", .lays "PatchedMachineModel" "PatchedMachineModel" "classes" "[I", .lays "PatchedMachineModel" "PatchedMachineModel" "methods" "[I", .lays "PatchedMachineModel" "PatchedMachineModel" "barred" "[I", .lays "PatchedMachineModel" "PatchedMachineModel" "waits" "I", .lays "PatchedMachineModel" "PatchedMachineModel" "done" "I", .lays "PatchedMachineModel" "PatchedMachineModel" "moves" "I", .lays "PatchedMachineModel" "PatchedMachineModel" "seen" "[I", .lays "PatchedMachineModel" "PatchedMachineModel" "height" "I", .lays "PatchedMachineModel" "PatchedMachineModel" "status" "I", .lays "PatchedMachineModel" "PatchedMachineModel" "result" "I", .lays "PatchedMachineModel" "PatchedMachineModel" "frames" "I", .lays "PatchedMachineModel" "PatchedMachineModel" "method" "[I", .lays "PatchedMachineModel" "PatchedMachineModel" "place" "[I", .lays "PatchedMachineModel" "PatchedMachineModel" "locals" "[I", .lays "PatchedMachineModel" "PatchedMachineModel" "stack" "[I", .lays "PatchedMachineModel" "PatchedMachineModel" "sort" "[I", .lays "PatchedMachineModel" "PatchedMachineModel" "top" "[I", .lays "PatchedMachineModel" "PatchedMachineModel" "made" "[I", .lays "PatchedMachineModel" "PatchedMachineModel" "held" "[I", .lays "PatchedMachineModel" "PatchedMachineModel" "led" "[Z", .lays "PatchedMachineModel" "PatchedMachineModel" "fresh" "[I", .lays "PatchedMachineModel" "PatchedMachineModel" "out" "[I", .lays "PatchedMachineModel" "PatchedMachineModel" "outs" "I", .fieldLink "PatchedMachineModel" 49 "PatchedMachineModel" "barred" "[I"]
set_option maxRecDepth 100000 in
theorem u_M_restricted : ∀ w ∈ t_M_restricted, w ∈ am_tb := am_subI [847, 867, 869, 871, 873, 875, 877, 879, 881, 883, 885, 887, 889, 891, 893, 895, 897, 899, 901, 903, 905, 907, 909, 911, 913, 915, 917, 919, 921, 923, 925, 927, 929, 931, 933, 846] (by decide +kernel) (by decide +kernel)
set_option maxRecDepth 100000 in
theorem s_M_restricted (l : Launch) : am_Sd l am_cl y_M_restricted (am_ws y_M_restricted prog_12_method_30_code 1 (some .int)) 0 0 f_M_restricted :=
  am_meth (by decide +kernel) (Or.inl ⟨rfl, rfl⟩) rfl (by decide) am_htc g_M_restricted (am_ctx (cb := cb_M_restricted) t_M_restricted [] "PatchedMachine" false [] [] u_M_restricted rfl (by decide +kernel) (fun h => by cases h)
    (fun _ h => absurd h List.not_mem_nil) (fun x t h => by cases h) (by decide +kernel))
def t_M_applied : List Jvm.Cond := [.fieldLink "PatchedMachineModel" 176 "PatchedMachineModel" "done" "I", .lays "PatchedMachineModel" "PatchedMachineModel" "fields" "[I", .lays "PatchedMachineModel" "PatchedMachineModel" "name" "[I", .lays "PatchedMachineModel" "PatchedMachineModel" "type" "[I", .lays "PatchedMachineModel" "PatchedMachineModel" "source" "[I", .lays "PatchedMachineModel" "PatchedMachineModel" "parameters" "[I", .lays "PatchedMachineModel" "PatchedMachineModel" "kinds" "[I", .lays "PatchedMachineModel" "PatchedMachineModel" "gives" "[I", .lays "PatchedMachineModel" "PatchedMachineModel" "length" "[I", .lays "PatchedMachineModel" "PatchedMachineModel" "op" "[I", .lays "PatchedMachineModel" "PatchedMachineModel" "x" "[I", .lays "PatchedMachineModel" "PatchedMachineModel" "y" "[I", .lays "PatchedMachineModel" "PatchedMachineModel" "classes" "[I", .lays "PatchedMachineModel" "PatchedMachineModel" "methods" "[I", .lays "PatchedMachineModel" "PatchedMachineModel" "barred" "[I", .lays "PatchedMachineModel" "PatchedMachineModel" "waits" "I", .lays "PatchedMachineModel" "PatchedMachineModel" "done" "I", .lays "PatchedMachineModel" "PatchedMachineModel" "moves" "I", .lays "PatchedMachineModel" "PatchedMachineModel" "seen" "[I", .lays "PatchedMachineModel" "PatchedMachineModel" "height" "I", .lays "PatchedMachineModel" "PatchedMachineModel" "status" "I", .lays "PatchedMachineModel" "PatchedMachineModel" "result" "I", .lays "PatchedMachineModel" "PatchedMachineModel" "frames" "I", .lays "PatchedMachineModel" "PatchedMachineModel" "method" "[I", .lays "PatchedMachineModel" "PatchedMachineModel" "place" "[I", .lays "PatchedMachineModel" "PatchedMachineModel" "locals" "[I", .lays "PatchedMachineModel" "PatchedMachineModel" "stack" "[I", .lays "PatchedMachineModel" "PatchedMachineModel" "sort" "[I", .lays "PatchedMachineModel" "PatchedMachineModel" "top" "[I", .lays "PatchedMachineModel" "PatchedMachineModel" "made" "[I", .lays "PatchedMachineModel" "PatchedMachineModel" "held" "[I", .lays "PatchedMachineModel" "PatchedMachineModel" "led" "[Z", .lays "PatchedMachineModel" "PatchedMachineModel" "fresh" "[I", .lays "PatchedMachineModel" "PatchedMachineModel" "out" "[I", .lays "PatchedMachineModel" "PatchedMachineModel" "outs" "I"]
set_option maxRecDepth 100000 in
theorem u_M_applied : ∀ w ∈ t_M_applied, w ∈ am_tb := am_subI [848, 867, 869, 871, 873, 875, 877, 879, 881, 883, 885, 887, 889, 891, 893, 895, 897, 899, 901, 903, 905, 907, 909, 911, 913, 915, 917, 919, 921, 923, 925, 927, 929, 931, 933] (by decide +kernel) (by decide +kernel)
set_option maxRecDepth 100000 in
theorem s_M_applied (l : Launch) : am_Sd l am_cl y_M_applied (am_ws y_M_applied prog_12_method_31_code 1 (some .int)) 0 0 f_M_applied :=
  am_meth (by decide +kernel) (Or.inl ⟨rfl, rfl⟩) rfl (by decide) am_htc g_M_applied (am_ctx (cb := cb_M_applied) t_M_applied [] "PatchedMachine" false [] [] u_M_applied rfl (by decide +kernel) (fun h => by cases h)
    (fun _ h => absurd h List.not_mem_nil) (fun x t h => by cases h) (by decide +kernel))
def t_M_moved : List Jvm.Cond := [.fieldLink "PatchedMachineModel" 173 "PatchedMachineModel" "moves" "I", .lays "PatchedMachineModel" "PatchedMachineModel" "fields" "[I", .lays "PatchedMachineModel" "PatchedMachineModel" "name" "[I", .lays "PatchedMachineModel" "PatchedMachineModel" "type" "[I", .lays "PatchedMachineModel" "PatchedMachineModel" "source" "[I", .lays "PatchedMachineModel" "PatchedMachineModel" "parameters" "[I", .lays "PatchedMachineModel" "PatchedMachineModel" "kinds" "[I", .lays "PatchedMachineModel" "PatchedMachineModel" "gives" "[I", .lays "PatchedMachineModel" "PatchedMachineModel" "length" "[I", .lays "PatchedMachineModel" "PatchedMachineModel" "op" "[I", .lays "PatchedMachineModel" "PatchedMachineModel" "x" "[I", .lays "PatchedMachineModel" "PatchedMachineModel" "y" "[I", .lays "PatchedMachineModel" "PatchedMachineModel" "classes" "[I", .lays "PatchedMachineModel" "PatchedMachineModel" "methods" "[I", .lays "PatchedMachineModel" "PatchedMachineModel" "barred" "[I", .lays "PatchedMachineModel" "PatchedMachineModel" "waits" "I", .lays "PatchedMachineModel" "PatchedMachineModel" "done" "I", .lays "PatchedMachineModel" "PatchedMachineModel" "moves" "I", .lays "PatchedMachineModel" "PatchedMachineModel" "seen" "[I", .lays "PatchedMachineModel" "PatchedMachineModel" "height" "I", .lays "PatchedMachineModel" "PatchedMachineModel" "status" "I", .lays "PatchedMachineModel" "PatchedMachineModel" "result" "I", .lays "PatchedMachineModel" "PatchedMachineModel" "frames" "I", .lays "PatchedMachineModel" "PatchedMachineModel" "method" "[I", .lays "PatchedMachineModel" "PatchedMachineModel" "place" "[I", .lays "PatchedMachineModel" "PatchedMachineModel" "locals" "[I", .lays "PatchedMachineModel" "PatchedMachineModel" "stack" "[I", .lays "PatchedMachineModel" "PatchedMachineModel" "sort" "[I", .lays "PatchedMachineModel" "PatchedMachineModel" "top" "[I", .lays "PatchedMachineModel" "PatchedMachineModel" "made" "[I", .lays "PatchedMachineModel" "PatchedMachineModel" "held" "[I", .lays "PatchedMachineModel" "PatchedMachineModel" "led" "[Z", .lays "PatchedMachineModel" "PatchedMachineModel" "fresh" "[I", .lays "PatchedMachineModel" "PatchedMachineModel" "out" "[I", .lays "PatchedMachineModel" "PatchedMachineModel" "outs" "I"]
set_option maxRecDepth 100000 in
theorem u_M_moved : ∀ w ∈ t_M_moved, w ∈ am_tb := am_subI [849, 867, 869, 871, 873, 875, 877, 879, 881, 883, 885, 887, 889, 891, 893, 895, 897, 899, 901, 903, 905, 907, 909, 911, 913, 915, 917, 919, 921, 923, 925, 927, 929, 931, 933] (by decide +kernel) (by decide +kernel)
set_option maxRecDepth 100000 in
theorem s_M_moved (l : Launch) : am_Sd l am_cl y_M_moved (am_ws y_M_moved prog_12_method_32_code 1 (some .int)) 0 0 f_M_moved :=
  am_meth (by decide +kernel) (Or.inl ⟨rfl, rfl⟩) rfl (by decide) am_htc g_M_moved (am_ctx (cb := cb_M_moved) t_M_moved [] "PatchedMachine" false [] [] u_M_moved rfl (by decide +kernel) (fun h => by cases h)
    (fun _ h => absurd h List.not_mem_nil) (fun x t h => by cases h) (by decide +kernel))
def t_M_objects : List Jvm.Cond := [.fieldLink "PatchedMachineModel" 73 "PatchedMachineModel" "made" "[I", .lays "PatchedMachineModel" "PatchedMachineModel" "fields" "[I", .lays "PatchedMachineModel" "PatchedMachineModel" "name" "[I", .lays "PatchedMachineModel" "PatchedMachineModel" "type" "[I", .lays "PatchedMachineModel" "PatchedMachineModel" "source" "[I", .lays "PatchedMachineModel" "PatchedMachineModel" "parameters" "[I", .lays "PatchedMachineModel" "PatchedMachineModel" "kinds" "[I", .lays "PatchedMachineModel" "PatchedMachineModel" "gives" "[I", .lays "PatchedMachineModel" "PatchedMachineModel" "length" "[I", .lays "PatchedMachineModel" "PatchedMachineModel" "op" "[I", .lays "PatchedMachineModel" "PatchedMachineModel" "x" "[I", .lays "PatchedMachineModel" "PatchedMachineModel" "y" "[I", .lays "PatchedMachineModel" "PatchedMachineModel" "classes" "[I", .lays "PatchedMachineModel" "PatchedMachineModel" "methods" "[I", .lays "PatchedMachineModel" "PatchedMachineModel" "barred" "[I", .lays "PatchedMachineModel" "PatchedMachineModel" "waits" "I", .lays "PatchedMachineModel" "PatchedMachineModel" "done" "I", .lays "PatchedMachineModel" "PatchedMachineModel" "moves" "I", .lays "PatchedMachineModel" "PatchedMachineModel" "seen" "[I", .lays "PatchedMachineModel" "PatchedMachineModel" "height" "I", .lays "PatchedMachineModel" "PatchedMachineModel" "status" "I", .lays "PatchedMachineModel" "PatchedMachineModel" "result" "I", .lays "PatchedMachineModel" "PatchedMachineModel" "frames" "I", .lays "PatchedMachineModel" "PatchedMachineModel" "method" "[I", .lays "PatchedMachineModel" "PatchedMachineModel" "place" "[I", .lays "PatchedMachineModel" "PatchedMachineModel" "locals" "[I", .lays "PatchedMachineModel" "PatchedMachineModel" "stack" "[I", .lays "PatchedMachineModel" "PatchedMachineModel" "sort" "[I", .lays "PatchedMachineModel" "PatchedMachineModel" "top" "[I", .lays "PatchedMachineModel" "PatchedMachineModel" "made" "[I", .lays "PatchedMachineModel" "PatchedMachineModel" "held" "[I", .lays "PatchedMachineModel" "PatchedMachineModel" "led" "[Z", .lays "PatchedMachineModel" "PatchedMachineModel" "fresh" "[I", .lays "PatchedMachineModel" "PatchedMachineModel" "out" "[I", .lays "PatchedMachineModel" "PatchedMachineModel" "outs" "I"]
set_option maxRecDepth 100000 in
theorem u_M_objects : ∀ w ∈ t_M_objects, w ∈ am_tb := am_subI [861, 867, 869, 871, 873, 875, 877, 879, 881, 883, 885, 887, 889, 891, 893, 895, 897, 899, 901, 903, 905, 907, 909, 911, 913, 915, 917, 919, 921, 923, 925, 927, 929, 931, 933] (by decide +kernel) (by decide +kernel)
set_option maxRecDepth 100000 in
theorem s_M_objects (l : Launch) : am_Sd l am_cl y_M_objects (am_ws y_M_objects prog_12_method_34_code 3 (some .int)) 0 0 f_M_objects :=
  am_meth (by decide +kernel) (Or.inl ⟨rfl, rfl⟩) rfl (by decide) am_htc g_M_objects (am_ctx (cb := cb_M_objects) t_M_objects [] "PatchedMachine" false [] [] u_M_objects rfl (by decide +kernel) (fun h => by cases h)
    (fun _ h => absurd h List.not_mem_nil) (fun x t h => by cases h) (by decide +kernel))
def t_M_begin : List Jvm.Cond := [.fieldLink "PatchedMachineModel" 157 "PatchedMachineModel" "frames" "I", .lays "PatchedMachineModel" "PatchedMachineModel" "fields" "[I", .lays "PatchedMachineModel" "PatchedMachineModel" "name" "[I", .lays "PatchedMachineModel" "PatchedMachineModel" "type" "[I", .lays "PatchedMachineModel" "PatchedMachineModel" "source" "[I", .lays "PatchedMachineModel" "PatchedMachineModel" "parameters" "[I", .lays "PatchedMachineModel" "PatchedMachineModel" "kinds" "[I", .lays "PatchedMachineModel" "PatchedMachineModel" "gives" "[I", .lays "PatchedMachineModel" "PatchedMachineModel" "length" "[I", .lays "PatchedMachineModel" "PatchedMachineModel" "op" "[I", .lays "PatchedMachineModel" "PatchedMachineModel" "x" "[I", .lays "PatchedMachineModel" "PatchedMachineModel" "y" "[I", .lays "PatchedMachineModel" "PatchedMachineModel" "classes" "[I", .lays "PatchedMachineModel" "PatchedMachineModel" "methods" "[I", .lays "PatchedMachineModel" "PatchedMachineModel" "barred" "[I", .lays "PatchedMachineModel" "PatchedMachineModel" "waits" "I", .lays "PatchedMachineModel" "PatchedMachineModel" "done" "I", .lays "PatchedMachineModel" "PatchedMachineModel" "moves" "I", .lays "PatchedMachineModel" "PatchedMachineModel" "seen" "[I", .lays "PatchedMachineModel" "PatchedMachineModel" "height" "I", .lays "PatchedMachineModel" "PatchedMachineModel" "status" "I", .lays "PatchedMachineModel" "PatchedMachineModel" "result" "I", .lays "PatchedMachineModel" "PatchedMachineModel" "frames" "I", .lays "PatchedMachineModel" "PatchedMachineModel" "method" "[I", .lays "PatchedMachineModel" "PatchedMachineModel" "place" "[I", .lays "PatchedMachineModel" "PatchedMachineModel" "locals" "[I", .lays "PatchedMachineModel" "PatchedMachineModel" "stack" "[I", .lays "PatchedMachineModel" "PatchedMachineModel" "sort" "[I", .lays "PatchedMachineModel" "PatchedMachineModel" "top" "[I", .lays "PatchedMachineModel" "PatchedMachineModel" "made" "[I", .lays "PatchedMachineModel" "PatchedMachineModel" "held" "[I", .lays "PatchedMachineModel" "PatchedMachineModel" "led" "[Z", .lays "PatchedMachineModel" "PatchedMachineModel" "fresh" "[I", .lays "PatchedMachineModel" "PatchedMachineModel" "out" "[I", .lays "PatchedMachineModel" "PatchedMachineModel" "outs" "I", .fieldLink "PatchedMachineModel" 55 "PatchedMachineModel" "method" "[I", .fieldLink "PatchedMachineModel" 58 "PatchedMachineModel" "place" "[I", .fieldLink "PatchedMachineModel" 70 "PatchedMachineModel" "top" "[I", .fieldLink "PatchedMachineModel" 61 "PatchedMachineModel" "locals" "[I"]
set_option maxRecDepth 100000 in
theorem u_M_begin : ∀ w ∈ t_M_begin, w ∈ am_tb := am_subI [854, 867, 869, 871, 873, 875, 877, 879, 881, 883, 885, 887, 889, 891, 893, 895, 897, 899, 901, 903, 905, 907, 909, 911, 913, 915, 917, 919, 921, 923, 925, 927, 929, 931, 933, 855, 856, 860, 857] (by decide +kernel) (by decide +kernel)
set_option maxRecDepth 100000 in
theorem s_M_begin (l : Launch) : am_Sd l am_cl y_M_begin (am_ws y_M_begin prog_12_method_36_code 5 none) 0 0 f_M_begin :=
  am_meth (by decide +kernel) (Or.inr (Or.inr (Or.inl ⟨rfl, rfl⟩))) rfl (by decide) am_htc g_M_begin (am_ctx (cb := cb_M_begin) t_M_begin [] "PatchedMachine" false [157] [] u_M_begin rfl (by decide +kernel) (fun h => by cases h)
    (fun _ h => absurd h List.not_mem_nil) (fun x t h => by cases h) (by decide +kernel))
def t_M_start : List Jvm.Cond := [.fieldLink "PatchedMachineModel" 182 "PatchedMachineModel" "status" "I", .lays "PatchedMachineModel" "PatchedMachineModel" "fields" "[I", .lays "PatchedMachineModel" "PatchedMachineModel" "name" "[I", .lays "PatchedMachineModel" "PatchedMachineModel" "type" "[I", .lays "PatchedMachineModel" "PatchedMachineModel" "source" "[I", .lays "PatchedMachineModel" "PatchedMachineModel" "parameters" "[I", .lays "PatchedMachineModel" "PatchedMachineModel" "kinds" "[I", .lays "PatchedMachineModel" "PatchedMachineModel" "gives" "[I", .lays "PatchedMachineModel" "PatchedMachineModel" "length" "[I", .lays "PatchedMachineModel" "PatchedMachineModel" "op" "[I", .lays "PatchedMachineModel" "PatchedMachineModel" "x" "[I", .lays "PatchedMachineModel" "PatchedMachineModel" "y" "[I", .lays "PatchedMachineModel" "PatchedMachineModel" "classes" "[I", .lays "PatchedMachineModel" "PatchedMachineModel" "methods" "[I", .lays "PatchedMachineModel" "PatchedMachineModel" "barred" "[I", .lays "PatchedMachineModel" "PatchedMachineModel" "waits" "I", .lays "PatchedMachineModel" "PatchedMachineModel" "done" "I", .lays "PatchedMachineModel" "PatchedMachineModel" "moves" "I", .lays "PatchedMachineModel" "PatchedMachineModel" "seen" "[I", .lays "PatchedMachineModel" "PatchedMachineModel" "height" "I", .lays "PatchedMachineModel" "PatchedMachineModel" "status" "I", .lays "PatchedMachineModel" "PatchedMachineModel" "result" "I", .lays "PatchedMachineModel" "PatchedMachineModel" "frames" "I", .lays "PatchedMachineModel" "PatchedMachineModel" "method" "[I", .lays "PatchedMachineModel" "PatchedMachineModel" "place" "[I", .lays "PatchedMachineModel" "PatchedMachineModel" "locals" "[I", .lays "PatchedMachineModel" "PatchedMachineModel" "stack" "[I", .lays "PatchedMachineModel" "PatchedMachineModel" "sort" "[I", .lays "PatchedMachineModel" "PatchedMachineModel" "top" "[I", .lays "PatchedMachineModel" "PatchedMachineModel" "made" "[I", .lays "PatchedMachineModel" "PatchedMachineModel" "held" "[I", .lays "PatchedMachineModel" "PatchedMachineModel" "led" "[Z", .lays "PatchedMachineModel" "PatchedMachineModel" "fresh" "[I", .lays "PatchedMachineModel" "PatchedMachineModel" "out" "[I", .lays "PatchedMachineModel" "PatchedMachineModel" "outs" "I", .methodLink "PatchedMachineModel" 89 y_M_in, .code y_M_in prog_12_method_2_code 3 (some .boolean), .initialized "PatchedMachineModel", .static y_M_in, .fieldLink "PatchedMachineModel" 31 "PatchedMachineModel" "length" "[I", .fieldLink "PatchedMachineModel" 22 "PatchedMachineModel" "parameters" "[I", .fieldLink "PatchedMachineModel" 28 "PatchedMachineModel" "gives" "[I", .fieldLink "PatchedMachineModel" 185 "PatchedMachineModel" "result" "I", .fieldLink "PatchedMachineModel" 157 "PatchedMachineModel" "frames" "I", .methodLink "PatchedMachineModel" 188 y_M_begin, .code y_M_begin prog_12_method_36_code 5 none, .instanceMethod y_M_begin, .selects "PatchedMachineModel" y_M_begin y_M_begin]
set_option maxRecDepth 100000 in
theorem u_M_start : ∀ w ∈ t_M_start, w ∈ am_tb := am_subI [852, 867, 869, 871, 873, 875, 877, 879, 881, 883, 885, 887, 889, 891, 893, 895, 897, 899, 901, 903, 905, 907, 909, 911, 913, 915, 917, 919, 921, 923, 925, 927, 929, 931, 933, 940, 942, 115, 941, 840, 837, 839, 853, 854, 1070, 1073, 1072, 96] (by decide +kernel) (by decide +kernel)
set_option maxRecDepth 100000 in
theorem s_M_start (l : Launch) : am_Sd l am_cl y_M_start (am_ws y_M_start prog_12_method_37_code 2 (some .boolean)) 1 24 f_M_start :=
  am_meth (by decide +kernel) (Or.inr (Or.inl ⟨rfl, rfl⟩)) rfl (by decide) am_htc g_M_start (am_ctx (cb := cb_M_start) t_M_start [(89, .invokestatic 89), (188, .invokevirtual 188)] "PatchedMachine" false [182, 185, 157] [] u_M_start rfl (by decide +kernel) (fun h => by cases h)
    (List.forall_mem_cons.mpr ⟨am_KS (na := 3) u_M_start (s_M_in l) (by decide +kernel) (by decide +kernel), (List.forall_mem_cons.mpr ⟨am_KV (na := 2) u_M_start (s_M_begin l) rfl (by decide +kernel) (by decide +kernel), (fun _ h => absurd h List.not_mem_nil)⟩)⟩) (fun x t h => by cases h) (by decide +kernel))
def t_M_put : List Jvm.Cond := [.fieldLink "PatchedMachineModel" 157 "PatchedMachineModel" "frames" "I", .lays "PatchedMachineModel" "PatchedMachineModel" "fields" "[I", .lays "PatchedMachineModel" "PatchedMachineModel" "name" "[I", .lays "PatchedMachineModel" "PatchedMachineModel" "type" "[I", .lays "PatchedMachineModel" "PatchedMachineModel" "source" "[I", .lays "PatchedMachineModel" "PatchedMachineModel" "parameters" "[I", .lays "PatchedMachineModel" "PatchedMachineModel" "kinds" "[I", .lays "PatchedMachineModel" "PatchedMachineModel" "gives" "[I", .lays "PatchedMachineModel" "PatchedMachineModel" "length" "[I", .lays "PatchedMachineModel" "PatchedMachineModel" "op" "[I", .lays "PatchedMachineModel" "PatchedMachineModel" "x" "[I", .lays "PatchedMachineModel" "PatchedMachineModel" "y" "[I", .lays "PatchedMachineModel" "PatchedMachineModel" "classes" "[I", .lays "PatchedMachineModel" "PatchedMachineModel" "methods" "[I", .lays "PatchedMachineModel" "PatchedMachineModel" "barred" "[I", .lays "PatchedMachineModel" "PatchedMachineModel" "waits" "I", .lays "PatchedMachineModel" "PatchedMachineModel" "done" "I", .lays "PatchedMachineModel" "PatchedMachineModel" "moves" "I", .lays "PatchedMachineModel" "PatchedMachineModel" "seen" "[I", .lays "PatchedMachineModel" "PatchedMachineModel" "height" "I", .lays "PatchedMachineModel" "PatchedMachineModel" "status" "I", .lays "PatchedMachineModel" "PatchedMachineModel" "result" "I", .lays "PatchedMachineModel" "PatchedMachineModel" "frames" "I", .lays "PatchedMachineModel" "PatchedMachineModel" "method" "[I", .lays "PatchedMachineModel" "PatchedMachineModel" "place" "[I", .lays "PatchedMachineModel" "PatchedMachineModel" "locals" "[I", .lays "PatchedMachineModel" "PatchedMachineModel" "stack" "[I", .lays "PatchedMachineModel" "PatchedMachineModel" "sort" "[I", .lays "PatchedMachineModel" "PatchedMachineModel" "top" "[I", .lays "PatchedMachineModel" "PatchedMachineModel" "made" "[I", .lays "PatchedMachineModel" "PatchedMachineModel" "held" "[I", .lays "PatchedMachineModel" "PatchedMachineModel" "led" "[Z", .lays "PatchedMachineModel" "PatchedMachineModel" "fresh" "[I", .lays "PatchedMachineModel" "PatchedMachineModel" "out" "[I", .lays "PatchedMachineModel" "PatchedMachineModel" "outs" "I", .fieldLink "PatchedMachineModel" 64 "PatchedMachineModel" "stack" "[I", .fieldLink "PatchedMachineModel" 70 "PatchedMachineModel" "top" "[I", .fieldLink "PatchedMachineModel" 67 "PatchedMachineModel" "sort" "[I"]
set_option maxRecDepth 100000 in
theorem u_M_put : ∀ w ∈ t_M_put, w ∈ am_tb := am_subI [854, 867, 869, 871, 873, 875, 877, 879, 881, 883, 885, 887, 889, 891, 893, 895, 897, 899, 901, 903, 905, 907, 909, 911, 913, 915, 917, 919, 921, 923, 925, 927, 929, 931, 933, 858, 860, 859] (by decide +kernel) (by decide +kernel)
set_option maxRecDepth 100000 in
theorem s_M_put (l : Launch) : am_Sd l am_cl y_M_put (am_ws y_M_put prog_12_method_40_code 4 none) 0 0 f_M_put :=
  am_meth (by decide +kernel) (Or.inr (Or.inr (Or.inl ⟨rfl, rfl⟩))) rfl (by decide) am_htc g_M_put (am_ctx (cb := cb_M_put) t_M_put [] "PatchedMachine" false [] [] u_M_put rfl (by decide +kernel) (fun h => by cases h)
    (fun _ h => absurd h List.not_mem_nil) (fun x t h => by cases h) (by decide +kernel))
def t_M_take : List Jvm.Cond := [.fieldLink "PatchedMachineModel" 157 "PatchedMachineModel" "frames" "I", .lays "PatchedMachineModel" "PatchedMachineModel" "fields" "[I", .lays "PatchedMachineModel" "PatchedMachineModel" "name" "[I", .lays "PatchedMachineModel" "PatchedMachineModel" "type" "[I", .lays "PatchedMachineModel" "PatchedMachineModel" "source" "[I", .lays "PatchedMachineModel" "PatchedMachineModel" "parameters" "[I", .lays "PatchedMachineModel" "PatchedMachineModel" "kinds" "[I", .lays "PatchedMachineModel" "PatchedMachineModel" "gives" "[I", .lays "PatchedMachineModel" "PatchedMachineModel" "length" "[I", .lays "PatchedMachineModel" "PatchedMachineModel" "op" "[I", .lays "PatchedMachineModel" "PatchedMachineModel" "x" "[I", .lays "PatchedMachineModel" "PatchedMachineModel" "y" "[I", .lays "PatchedMachineModel" "PatchedMachineModel" "classes" "[I", .lays "PatchedMachineModel" "PatchedMachineModel" "methods" "[I", .lays "PatchedMachineModel" "PatchedMachineModel" "barred" "[I", .lays "PatchedMachineModel" "PatchedMachineModel" "waits" "I", .lays "PatchedMachineModel" "PatchedMachineModel" "done" "I", .lays "PatchedMachineModel" "PatchedMachineModel" "moves" "I", .lays "PatchedMachineModel" "PatchedMachineModel" "seen" "[I", .lays "PatchedMachineModel" "PatchedMachineModel" "height" "I", .lays "PatchedMachineModel" "PatchedMachineModel" "status" "I", .lays "PatchedMachineModel" "PatchedMachineModel" "result" "I", .lays "PatchedMachineModel" "PatchedMachineModel" "frames" "I", .lays "PatchedMachineModel" "PatchedMachineModel" "method" "[I", .lays "PatchedMachineModel" "PatchedMachineModel" "place" "[I", .lays "PatchedMachineModel" "PatchedMachineModel" "locals" "[I", .lays "PatchedMachineModel" "PatchedMachineModel" "stack" "[I", .lays "PatchedMachineModel" "PatchedMachineModel" "sort" "[I", .lays "PatchedMachineModel" "PatchedMachineModel" "top" "[I", .lays "PatchedMachineModel" "PatchedMachineModel" "made" "[I", .lays "PatchedMachineModel" "PatchedMachineModel" "held" "[I", .lays "PatchedMachineModel" "PatchedMachineModel" "led" "[Z", .lays "PatchedMachineModel" "PatchedMachineModel" "fresh" "[I", .lays "PatchedMachineModel" "PatchedMachineModel" "out" "[I", .lays "PatchedMachineModel" "PatchedMachineModel" "outs" "I", .fieldLink "PatchedMachineModel" 70 "PatchedMachineModel" "top" "[I", .fieldLink "PatchedMachineModel" 64 "PatchedMachineModel" "stack" "[I"]
set_option maxRecDepth 100000 in
theorem u_M_take : ∀ w ∈ t_M_take, w ∈ am_tb := am_subI [854, 867, 869, 871, 873, 875, 877, 879, 881, 883, 885, 887, 889, 891, 893, 895, 897, 899, 901, 903, 905, 907, 909, 911, 913, 915, 917, 919, 921, 923, 925, 927, 929, 931, 933, 860, 858] (by decide +kernel) (by decide +kernel)
set_option maxRecDepth 100000 in
theorem s_M_take (l : Launch) : am_Sd l am_cl y_M_take (am_ws y_M_take prog_12_method_39_code 2 (some .int)) 0 0 f_M_take :=
  am_meth (by decide +kernel) (Or.inl ⟨rfl, rfl⟩) rfl (by decide) am_htc g_M_take (am_ctx (cb := cb_M_take) t_M_take [] "PatchedMachine" false [] [] u_M_take rfl (by decide +kernel) (fun h => by cases h)
    (fun _ h => absurd h List.not_mem_nil) (fun x t h => by cases h) (by decide +kernel))
def t_M_call : List Jvm.Cond := [.fieldLink "PatchedMachineModel" 157 "PatchedMachineModel" "frames" "I", .lays "PatchedMachineModel" "PatchedMachineModel" "fields" "[I", .lays "PatchedMachineModel" "PatchedMachineModel" "name" "[I", .lays "PatchedMachineModel" "PatchedMachineModel" "type" "[I", .lays "PatchedMachineModel" "PatchedMachineModel" "source" "[I", .lays "PatchedMachineModel" "PatchedMachineModel" "parameters" "[I", .lays "PatchedMachineModel" "PatchedMachineModel" "kinds" "[I", .lays "PatchedMachineModel" "PatchedMachineModel" "gives" "[I", .lays "PatchedMachineModel" "PatchedMachineModel" "length" "[I", .lays "PatchedMachineModel" "PatchedMachineModel" "op" "[I", .lays "PatchedMachineModel" "PatchedMachineModel" "x" "[I", .lays "PatchedMachineModel" "PatchedMachineModel" "y" "[I", .lays "PatchedMachineModel" "PatchedMachineModel" "classes" "[I", .lays "PatchedMachineModel" "PatchedMachineModel" "methods" "[I", .lays "PatchedMachineModel" "PatchedMachineModel" "barred" "[I", .lays "PatchedMachineModel" "PatchedMachineModel" "waits" "I", .lays "PatchedMachineModel" "PatchedMachineModel" "done" "I", .lays "PatchedMachineModel" "PatchedMachineModel" "moves" "I", .lays "PatchedMachineModel" "PatchedMachineModel" "seen" "[I", .lays "PatchedMachineModel" "PatchedMachineModel" "height" "I", .lays "PatchedMachineModel" "PatchedMachineModel" "status" "I", .lays "PatchedMachineModel" "PatchedMachineModel" "result" "I", .lays "PatchedMachineModel" "PatchedMachineModel" "frames" "I", .lays "PatchedMachineModel" "PatchedMachineModel" "method" "[I", .lays "PatchedMachineModel" "PatchedMachineModel" "place" "[I", .lays "PatchedMachineModel" "PatchedMachineModel" "locals" "[I", .lays "PatchedMachineModel" "PatchedMachineModel" "stack" "[I", .lays "PatchedMachineModel" "PatchedMachineModel" "sort" "[I", .lays "PatchedMachineModel" "PatchedMachineModel" "top" "[I", .lays "PatchedMachineModel" "PatchedMachineModel" "made" "[I", .lays "PatchedMachineModel" "PatchedMachineModel" "held" "[I", .lays "PatchedMachineModel" "PatchedMachineModel" "led" "[Z", .lays "PatchedMachineModel" "PatchedMachineModel" "fresh" "[I", .lays "PatchedMachineModel" "PatchedMachineModel" "out" "[I", .lays "PatchedMachineModel" "PatchedMachineModel" "outs" "I", .fieldLink "PatchedMachineModel" 182 "PatchedMachineModel" "status" "I", .fieldLink "PatchedMachineModel" 22 "PatchedMachineModel" "parameters" "[I", .fieldLink "PatchedMachineModel" 61 "PatchedMachineModel" "locals" "[I", .methodLink "PatchedMachineModel" 197 y_M_take, .code y_M_take prog_12_method_39_code 2 (some .int), .initialized "PatchedMachineModel", .instanceMethod y_M_take, .selects "PatchedMachineModel" y_M_take y_M_take, .methodLink "PatchedMachineModel" 188 y_M_begin, .code y_M_begin prog_12_method_36_code 5 none, .instanceMethod y_M_begin, .selects "PatchedMachineModel" y_M_begin y_M_begin]
set_option maxRecDepth 100000 in
theorem u_M_call : ∀ w ∈ t_M_call, w ∈ am_tb := am_subI [854, 867, 869, 871, 873, 875, 877, 879, 881, 883, 885, 887, 889, 891, 893, 895, 897, 899, 901, 903, 905, 907, 909, 911, 913, 915, 917, 919, 921, 923, 925, 927, 929, 931, 933, 852, 837, 857, 1086, 1089, 115, 1088, 99, 1070, 1073, 1072, 96] (by decide +kernel) (by decide +kernel)
set_option maxRecDepth 100000 in
theorem s_M_call (l : Launch) : am_Sd l am_cl y_M_call (am_ws y_M_call prog_12_method_43_code 3 none) 1 24 f_M_call :=
  am_meth (by decide +kernel) (Or.inr (Or.inr (Or.inl ⟨rfl, rfl⟩))) rfl (by decide) am_htc g_M_call (am_ctx (cb := cb_M_call) t_M_call [(197, .invokevirtual 197), (188, .invokevirtual 188)] "PatchedMachine" false [182] [] u_M_call rfl (by decide +kernel) (fun h => by cases h)
    (List.forall_mem_cons.mpr ⟨am_KV (na := 0) u_M_call (s_M_take l) rfl (by decide +kernel) (by decide +kernel), (List.forall_mem_cons.mpr ⟨am_KV (na := 2) u_M_call (s_M_begin l) rfl (by decide +kernel) (by decide +kernel), (fun _ h => absurd h List.not_mem_nil)⟩)⟩) (fun x t h => by cases h) (by decide +kernel))
def t_M_leave : List Jvm.Cond := [.methodLink "PatchedMachineModel" 197 y_M_take, .code y_M_take prog_12_method_39_code 2 (some .int), .initialized "PatchedMachineModel", .instanceMethod y_M_take, .selects "PatchedMachineModel" y_M_take y_M_take, .fieldLink "PatchedMachineModel" 157 "PatchedMachineModel" "frames" "I", .lays "PatchedMachineModel" "PatchedMachineModel" "fields" "[I", .lays "PatchedMachineModel" "PatchedMachineModel" "name" "[I", .lays "PatchedMachineModel" "PatchedMachineModel" "type" "[I", .lays "PatchedMachineModel" "PatchedMachineModel" "source" "[I", .lays "PatchedMachineModel" "PatchedMachineModel" "parameters" "[I", .lays "PatchedMachineModel" "PatchedMachineModel" "kinds" "[I", .lays "PatchedMachineModel" "PatchedMachineModel" "gives" "[I", .lays "PatchedMachineModel" "PatchedMachineModel" "length" "[I", .lays "PatchedMachineModel" "PatchedMachineModel" "op" "[I", .lays "PatchedMachineModel" "PatchedMachineModel" "x" "[I", .lays "PatchedMachineModel" "PatchedMachineModel" "y" "[I", .lays "PatchedMachineModel" "PatchedMachineModel" "classes" "[I", .lays "PatchedMachineModel" "PatchedMachineModel" "methods" "[I", .lays "PatchedMachineModel" "PatchedMachineModel" "barred" "[I", .lays "PatchedMachineModel" "PatchedMachineModel" "waits" "I", .lays "PatchedMachineModel" "PatchedMachineModel" "done" "I", .lays "PatchedMachineModel" "PatchedMachineModel" "moves" "I", .lays "PatchedMachineModel" "PatchedMachineModel" "seen" "[I", .lays "PatchedMachineModel" "PatchedMachineModel" "height" "I", .lays "PatchedMachineModel" "PatchedMachineModel" "status" "I", .lays "PatchedMachineModel" "PatchedMachineModel" "result" "I", .lays "PatchedMachineModel" "PatchedMachineModel" "frames" "I", .lays "PatchedMachineModel" "PatchedMachineModel" "method" "[I", .lays "PatchedMachineModel" "PatchedMachineModel" "place" "[I", .lays "PatchedMachineModel" "PatchedMachineModel" "locals" "[I", .lays "PatchedMachineModel" "PatchedMachineModel" "stack" "[I", .lays "PatchedMachineModel" "PatchedMachineModel" "sort" "[I", .lays "PatchedMachineModel" "PatchedMachineModel" "top" "[I", .lays "PatchedMachineModel" "PatchedMachineModel" "made" "[I", .lays "PatchedMachineModel" "PatchedMachineModel" "held" "[I", .lays "PatchedMachineModel" "PatchedMachineModel" "led" "[Z", .lays "PatchedMachineModel" "PatchedMachineModel" "fresh" "[I", .lays "PatchedMachineModel" "PatchedMachineModel" "out" "[I", .lays "PatchedMachineModel" "PatchedMachineModel" "outs" "I", .fieldLink "PatchedMachineModel" 182 "PatchedMachineModel" "status" "I", .fieldLink "PatchedMachineModel" 185 "PatchedMachineModel" "result" "I", .methodLink "PatchedMachineModel" 194 y_M_put, .code y_M_put prog_12_method_40_code 4 none, .instanceMethod y_M_put, .selects "PatchedMachineModel" y_M_put y_M_put]
set_option maxRecDepth 100000 in
theorem u_M_leave : ∀ w ∈ t_M_leave, w ∈ am_tb := am_subI [1086, 1089, 115, 1088, 99, 854, 867, 869, 871, 873, 875, 877, 879, 881, 883, 885, 887, 889, 891, 893, 895, 897, 899, 901, 903, 905, 907, 909, 911, 913, 915, 917, 919, 921, 923, 925, 927, 929, 931, 933, 852, 853, 1082, 1085, 1084, 98] (by decide +kernel) (by decide +kernel)
set_option maxRecDepth 100000 in
theorem s_M_leave (l : Launch) : am_Sd l am_cl y_M_leave (am_ws y_M_leave prog_12_method_44_code 3 none) 1 23 f_M_leave :=
  am_meth (by decide +kernel) (Or.inr (Or.inr (Or.inl ⟨rfl, rfl⟩))) rfl (by decide) am_htc g_M_leave (am_ctx (cb := cb_M_leave) t_M_leave [(197, .invokevirtual 197), (194, .invokevirtual 194)] "PatchedMachine" false [157, 182, 185] [] u_M_leave rfl (by decide +kernel) (fun h => by cases h)
    (List.forall_mem_cons.mpr ⟨am_KV (na := 0) u_M_leave (s_M_take l) rfl (by decide +kernel) (by decide +kernel), (List.forall_mem_cons.mpr ⟨am_KV (na := 2) u_M_leave (s_M_put l) rfl (by decide +kernel) (by decide +kernel), (fun _ h => absurd h List.not_mem_nil)⟩)⟩) (fun x t h => by cases h) (by decide +kernel))
def t_M_born : List Jvm.Cond := [.methodLink "PatchedMachineModel" 179 y_M_objects, .code y_M_objects prog_12_method_34_code 3 (some .int), .initialized "PatchedMachineModel", .instanceMethod y_M_objects, .selects "PatchedMachineModel" y_M_objects y_M_objects, .methodLink "PatchedMachineModel" 167 y_M_collect, .code y_M_collect prog_12_method_33_code 4 none, .instanceMethod y_M_collect, .selects "PatchedMachineModel" y_M_collect y_M_collect, .fieldLink "PatchedMachineModel" 73 "PatchedMachineModel" "made" "[I", .lays "PatchedMachineModel" "PatchedMachineModel" "fields" "[I", .lays "PatchedMachineModel" "PatchedMachineModel" "name" "[I", .lays "PatchedMachineModel" "PatchedMachineModel" "type" "[I", .lays "PatchedMachineModel" "PatchedMachineModel" "source" "[I", .lays "PatchedMachineModel" "PatchedMachineModel" "parameters" "[I", .lays "PatchedMachineModel" "PatchedMachineModel" "kinds" "[I", .lays "PatchedMachineModel" "PatchedMachineModel" "gives" "[I", .lays "PatchedMachineModel" "PatchedMachineModel" "length" "[I", .lays "PatchedMachineModel" "PatchedMachineModel" "op" "[I", .lays "PatchedMachineModel" "PatchedMachineModel" "x" "[I", .lays "PatchedMachineModel" "PatchedMachineModel" "y" "[I", .lays "PatchedMachineModel" "PatchedMachineModel" "classes" "[I", .lays "PatchedMachineModel" "PatchedMachineModel" "methods" "[I", .lays "PatchedMachineModel" "PatchedMachineModel" "barred" "[I", .lays "PatchedMachineModel" "PatchedMachineModel" "waits" "I", .lays "PatchedMachineModel" "PatchedMachineModel" "done" "I", .lays "PatchedMachineModel" "PatchedMachineModel" "moves" "I", .lays "PatchedMachineModel" "PatchedMachineModel" "seen" "[I", .lays "PatchedMachineModel" "PatchedMachineModel" "height" "I", .lays "PatchedMachineModel" "PatchedMachineModel" "status" "I", .lays "PatchedMachineModel" "PatchedMachineModel" "result" "I", .lays "PatchedMachineModel" "PatchedMachineModel" "frames" "I", .lays "PatchedMachineModel" "PatchedMachineModel" "method" "[I", .lays "PatchedMachineModel" "PatchedMachineModel" "place" "[I", .lays "PatchedMachineModel" "PatchedMachineModel" "locals" "[I", .lays "PatchedMachineModel" "PatchedMachineModel" "stack" "[I", .lays "PatchedMachineModel" "PatchedMachineModel" "sort" "[I", .lays "PatchedMachineModel" "PatchedMachineModel" "top" "[I", .lays "PatchedMachineModel" "PatchedMachineModel" "made" "[I", .lays "PatchedMachineModel" "PatchedMachineModel" "held" "[I", .lays "PatchedMachineModel" "PatchedMachineModel" "led" "[Z", .lays "PatchedMachineModel" "PatchedMachineModel" "fresh" "[I", .lays "PatchedMachineModel" "PatchedMachineModel" "out" "[I", .lays "PatchedMachineModel" "PatchedMachineModel" "outs" "I", .fieldLink "PatchedMachineModel" 76 "PatchedMachineModel" "held" "[I"]
set_option maxRecDepth 100000 in
theorem u_M_born : ∀ w ∈ t_M_born, w ∈ am_tb := am_subI [1106, 1065, 115, 1063, 1064, 1038, 1041, 1040, 94, 861, 867, 869, 871, 873, 875, 877, 879, 881, 883, 885, 887, 889, 891, 893, 895, 897, 899, 901, 903, 905, 907, 909, 911, 913, 915, 917, 919, 921, 923, 925, 927, 929, 931, 933, 862] (by decide +kernel) (by decide +kernel)
set_option maxRecDepth 100000 in
theorem s_M_born (l : Launch) : am_Sd l am_cl y_M_born (am_ws y_M_born prog_12_method_35_code 4 (some .int)) 2 46 f_M_born :=
  am_meth (by decide +kernel) (Or.inl ⟨rfl, rfl⟩) rfl (by decide) am_htc g_M_born (am_ctx (cb := cb_M_born) t_M_born [(179, .invokevirtual 179), (167, .invokevirtual 167)] "PatchedMachine" false [] [] u_M_born rfl (by decide +kernel) (fun h => by cases h)
    (List.forall_mem_cons.mpr ⟨am_KV (na := 0) u_M_born (s_M_objects l) rfl (by decide +kernel) (by decide +kernel), (List.forall_mem_cons.mpr ⟨am_KV (na := 0) u_M_born (s_M_collect l) rfl (by decide +kernel) (by decide +kernel), (fun _ h => absurd h List.not_mem_nil)⟩)⟩) (fun x t h => by cases h) (by decide +kernel))
def t_M_object : List Jvm.Cond := [.methodLink "PatchedMachineModel" 214 y_M_born, .code y_M_born prog_12_method_35_code 4 (some .int), .initialized "PatchedMachineModel", .instanceMethod y_M_born, .selects "PatchedMachineModel" y_M_born y_M_born, .fieldLink "PatchedMachineModel" 182 "PatchedMachineModel" "status" "I", .lays "PatchedMachineModel" "PatchedMachineModel" "fields" "[I", .lays "PatchedMachineModel" "PatchedMachineModel" "name" "[I", .lays "PatchedMachineModel" "PatchedMachineModel" "type" "[I", .lays "PatchedMachineModel" "PatchedMachineModel" "source" "[I", .lays "PatchedMachineModel" "PatchedMachineModel" "parameters" "[I", .lays "PatchedMachineModel" "PatchedMachineModel" "kinds" "[I", .lays "PatchedMachineModel" "PatchedMachineModel" "gives" "[I", .lays "PatchedMachineModel" "PatchedMachineModel" "length" "[I", .lays "PatchedMachineModel" "PatchedMachineModel" "op" "[I", .lays "PatchedMachineModel" "PatchedMachineModel" "x" "[I", .lays "PatchedMachineModel" "PatchedMachineModel" "y" "[I", .lays "PatchedMachineModel" "PatchedMachineModel" "classes" "[I", .lays "PatchedMachineModel" "PatchedMachineModel" "methods" "[I", .lays "PatchedMachineModel" "PatchedMachineModel" "barred" "[I", .lays "PatchedMachineModel" "PatchedMachineModel" "waits" "I", .lays "PatchedMachineModel" "PatchedMachineModel" "done" "I", .lays "PatchedMachineModel" "PatchedMachineModel" "moves" "I", .lays "PatchedMachineModel" "PatchedMachineModel" "seen" "[I", .lays "PatchedMachineModel" "PatchedMachineModel" "height" "I", .lays "PatchedMachineModel" "PatchedMachineModel" "status" "I", .lays "PatchedMachineModel" "PatchedMachineModel" "result" "I", .lays "PatchedMachineModel" "PatchedMachineModel" "frames" "I", .lays "PatchedMachineModel" "PatchedMachineModel" "method" "[I", .lays "PatchedMachineModel" "PatchedMachineModel" "place" "[I", .lays "PatchedMachineModel" "PatchedMachineModel" "locals" "[I", .lays "PatchedMachineModel" "PatchedMachineModel" "stack" "[I", .lays "PatchedMachineModel" "PatchedMachineModel" "sort" "[I", .lays "PatchedMachineModel" "PatchedMachineModel" "top" "[I", .lays "PatchedMachineModel" "PatchedMachineModel" "made" "[I", .lays "PatchedMachineModel" "PatchedMachineModel" "held" "[I", .lays "PatchedMachineModel" "PatchedMachineModel" "led" "[Z", .lays "PatchedMachineModel" "PatchedMachineModel" "fresh" "[I", .lays "PatchedMachineModel" "PatchedMachineModel" "out" "[I", .lays "PatchedMachineModel" "PatchedMachineModel" "outs" "I", .methodLink "PatchedMachineModel" 194 y_M_put, .code y_M_put prog_12_method_40_code 4 none, .instanceMethod y_M_put, .selects "PatchedMachineModel" y_M_put y_M_put, .methodLink "PatchedMachineModel" 93 y_M_find, .code y_M_find prog_12_method_4_code 5 (some .int), .instanceMethod y_M_find, .selects "PatchedMachineModel" y_M_find y_M_find, .methodLink "PatchedMachineModel" 197 y_M_take, .code y_M_take prog_12_method_39_code 2 (some .int), .instanceMethod y_M_take, .selects "PatchedMachineModel" y_M_take y_M_take, .fieldLink "PatchedMachineModel" 76 "PatchedMachineModel" "held" "[I", .methodLink "PatchedMachineModel" 101 y_M_typeOf, .code y_M_typeOf prog_12_method_5_code 4 (some .int), .instanceMethod y_M_typeOf, .selects "PatchedMachineModel" y_M_typeOf y_M_typeOf]
set_option maxRecDepth 100000 in
theorem u_M_object : ∀ w ∈ t_M_object, w ∈ am_tb := am_subI [1102, 1105, 115, 1104, 103, 852, 867, 869, 871, 873, 875, 877, 879, 881, 883, 885, 887, 889, 891, 893, 895, 897, 899, 901, 903, 905, 907, 909, 911, 913, 915, 917, 919, 921, 923, 925, 927, 929, 931, 933, 1082, 1085, 1084, 98, 947, 950, 949, 76, 1086, 1089, 1088, 99, 862, 951, 954, 953, 77] (by decide +kernel) (by decide +kernel)
set_option maxRecDepth 100000 in
theorem s_M_object (l : Launch) : am_Sd l am_cl y_M_object (am_ws y_M_object prog_12_method_42_code 7 none) 3 69 f_M_object :=
  am_meth (by decide +kernel) (Or.inr (Or.inr (Or.inl ⟨rfl, rfl⟩))) rfl (by decide) am_htc g_M_object (am_ctx (cb := cb_M_object) t_M_object [(214, .invokevirtual 214), (194, .invokevirtual 194), (93, .invokevirtual 93), (197, .invokevirtual 197), (101, .invokevirtual 101)] "PatchedMachine" false [182] [] u_M_object rfl (by decide +kernel) (fun h => by cases h)
    (List.forall_mem_cons.mpr ⟨am_KV (na := 1) u_M_object (s_M_born l) rfl (by decide +kernel) (by decide +kernel), (List.forall_mem_cons.mpr ⟨am_KV (na := 2) u_M_object (s_M_put l) rfl (by decide +kernel) (by decide +kernel), (List.forall_mem_cons.mpr ⟨am_KV (na := 3) u_M_object (s_M_find l) rfl (by decide +kernel) (by decide +kernel), (List.forall_mem_cons.mpr ⟨am_KV (na := 0) u_M_object (s_M_take l) rfl (by decide +kernel) (by decide +kernel), (List.forall_mem_cons.mpr ⟨am_KV (na := 3) u_M_object (s_M_typeOf l) rfl (by decide +kernel) (by decide +kernel), (fun _ h => absurd h List.not_mem_nil)⟩)⟩)⟩)⟩)⟩) (fun x t h => by cases h) (by decide +kernel))
def t_M_step : List Jvm.Cond := [.fieldLink "PatchedMachineModel" 157 "PatchedMachineModel" "frames" "I", .lays "PatchedMachineModel" "PatchedMachineModel" "fields" "[I", .lays "PatchedMachineModel" "PatchedMachineModel" "name" "[I", .lays "PatchedMachineModel" "PatchedMachineModel" "type" "[I", .lays "PatchedMachineModel" "PatchedMachineModel" "source" "[I", .lays "PatchedMachineModel" "PatchedMachineModel" "parameters" "[I", .lays "PatchedMachineModel" "PatchedMachineModel" "kinds" "[I", .lays "PatchedMachineModel" "PatchedMachineModel" "gives" "[I", .lays "PatchedMachineModel" "PatchedMachineModel" "length" "[I", .lays "PatchedMachineModel" "PatchedMachineModel" "op" "[I", .lays "PatchedMachineModel" "PatchedMachineModel" "x" "[I", .lays "PatchedMachineModel" "PatchedMachineModel" "y" "[I", .lays "PatchedMachineModel" "PatchedMachineModel" "classes" "[I", .lays "PatchedMachineModel" "PatchedMachineModel" "methods" "[I", .lays "PatchedMachineModel" "PatchedMachineModel" "barred" "[I", .lays "PatchedMachineModel" "PatchedMachineModel" "waits" "I", .lays "PatchedMachineModel" "PatchedMachineModel" "done" "I", .lays "PatchedMachineModel" "PatchedMachineModel" "moves" "I", .lays "PatchedMachineModel" "PatchedMachineModel" "seen" "[I", .lays "PatchedMachineModel" "PatchedMachineModel" "height" "I", .lays "PatchedMachineModel" "PatchedMachineModel" "status" "I", .lays "PatchedMachineModel" "PatchedMachineModel" "result" "I", .lays "PatchedMachineModel" "PatchedMachineModel" "frames" "I", .lays "PatchedMachineModel" "PatchedMachineModel" "method" "[I", .lays "PatchedMachineModel" "PatchedMachineModel" "place" "[I", .lays "PatchedMachineModel" "PatchedMachineModel" "locals" "[I", .lays "PatchedMachineModel" "PatchedMachineModel" "stack" "[I", .lays "PatchedMachineModel" "PatchedMachineModel" "sort" "[I", .lays "PatchedMachineModel" "PatchedMachineModel" "top" "[I", .lays "PatchedMachineModel" "PatchedMachineModel" "made" "[I", .lays "PatchedMachineModel" "PatchedMachineModel" "held" "[I", .lays "PatchedMachineModel" "PatchedMachineModel" "led" "[Z", .lays "PatchedMachineModel" "PatchedMachineModel" "fresh" "[I", .lays "PatchedMachineModel" "PatchedMachineModel" "out" "[I", .lays "PatchedMachineModel" "PatchedMachineModel" "outs" "I", .fieldLink "PatchedMachineModel" 55 "PatchedMachineModel" "method" "[I", .fieldLink "PatchedMachineModel" 58 "PatchedMachineModel" "place" "[I", .fieldLink "PatchedMachineModel" 34 "PatchedMachineModel" "op" "[I", .fieldLink "PatchedMachineModel" 37 "PatchedMachineModel" "x" "[I", .methodLink "PatchedMachineModel" 194 y_M_put, .code y_M_put prog_12_method_40_code 4 none, .initialized "PatchedMachineModel", .instanceMethod y_M_put, .selects "PatchedMachineModel" y_M_put y_M_put, .fieldLink "PatchedMachineModel" 61 "PatchedMachineModel" "locals" "[I", .methodLink "PatchedMachineModel" 117 y_M_local, .code y_M_local prog_12_method_15_code 3 (some .int), .instanceMethod y_M_local, .selects "PatchedMachineModel" y_M_local y_M_local, .methodLink "PatchedMachineModel" 197 y_M_take, .code y_M_take prog_12_method_39_code 2 (some .int), .instanceMethod y_M_take, .selects "PatchedMachineModel" y_M_take y_M_take, .methodLink "PatchedMachineModel" 200 y_M_call, .code y_M_call prog_12_method_43_code 3 none, .instanceMethod y_M_call, .selects "PatchedMachineModel" y_M_call y_M_call, .fieldLink "PatchedMachineModel" 28 "PatchedMachineModel" "gives" "[I", .methodLink "PatchedMachineModel" 204 y_M_leave, .code y_M_leave prog_12_method_44_code 3 none, .instanceMethod y_M_leave, .selects "PatchedMachineModel" y_M_leave y_M_leave, .fieldLink "PatchedMachineModel" 86 "PatchedMachineModel" "out" "[I", .fieldLink "PatchedMachineModel" 207 "PatchedMachineModel" "outs" "I", .fieldLink "PatchedMachineModel" 40 "PatchedMachineModel" "y" "[I", .methodLink "PatchedMachineModel" 210 y_M_object, .code y_M_object prog_12_method_42_code 7 none, .instanceMethod y_M_object, .selects "PatchedMachineModel" y_M_object y_M_object]
set_option maxRecDepth 100000 in
theorem u_M_step : ∀ w ∈ t_M_step, w ∈ am_tb := am_subI [854, 867, 869, 871, 873, 875, 877, 879, 881, 883, 885, 887, 889, 891, 893, 895, 897, 899, 901, 903, 905, 907, 909, 911, 913, 915, 917, 919, 921, 923, 925, 927, 929, 931, 933, 855, 856, 841, 842, 1082, 1085, 115, 1084, 98, 857, 998, 1001, 1000, 84, 1086, 1089, 1088, 99, 1090, 1093, 1092, 100, 839, 1094, 1097, 1096, 101, 865, 866, 843, 1098, 1101, 1100, 102] (by decide +kernel) (by decide +kernel)
set_option maxRecDepth 100000 in
theorem s_M_step (l : Launch) : am_Sd l am_cl y_M_step (am_ws y_M_step prog_12_method_41_code 7 none) 4 95 f_M_step :=
  am_meth (by decide +kernel) (Or.inr (Or.inr (Or.inl ⟨rfl, rfl⟩))) rfl (by decide) am_htc g_M_step (am_ctx (cb := cb_M_step) t_M_step [(194, .invokevirtual 194), (117, .invokevirtual 117), (197, .invokevirtual 197), (200, .invokevirtual 200), (204, .invokevirtual 204), (210, .invokevirtual 210)] "PatchedMachine" false [207] [] u_M_step rfl (by decide +kernel) (fun h => by cases h)
    (List.forall_mem_cons.mpr ⟨am_KV (na := 2) u_M_step (s_M_put l) rfl (by decide +kernel) (by decide +kernel), (List.forall_mem_cons.mpr ⟨am_KV (na := 2) u_M_step (s_M_local l) rfl (by decide +kernel) (by decide +kernel), (List.forall_mem_cons.mpr ⟨am_KV (na := 0) u_M_step (s_M_take l) rfl (by decide +kernel) (by decide +kernel), (List.forall_mem_cons.mpr ⟨am_KV (na := 1) u_M_step (s_M_call l) rfl (by decide +kernel) (by decide +kernel), (List.forall_mem_cons.mpr ⟨am_KV (na := 1) u_M_step (s_M_leave l) rfl (by decide +kernel) (by decide +kernel), (List.forall_mem_cons.mpr ⟨am_KV (na := 3) u_M_step (s_M_object l) rfl (by decide +kernel) (by decide +kernel), (fun _ h => absurd h List.not_mem_nil)⟩)⟩)⟩)⟩)⟩)⟩) (fun x t h => by cases h) (by decide +kernel))
def t_M_run : List Jvm.Cond := [.fieldLink "PatchedMachineModel" 182 "PatchedMachineModel" "status" "I", .lays "PatchedMachineModel" "PatchedMachineModel" "fields" "[I", .lays "PatchedMachineModel" "PatchedMachineModel" "name" "[I", .lays "PatchedMachineModel" "PatchedMachineModel" "type" "[I", .lays "PatchedMachineModel" "PatchedMachineModel" "source" "[I", .lays "PatchedMachineModel" "PatchedMachineModel" "parameters" "[I", .lays "PatchedMachineModel" "PatchedMachineModel" "kinds" "[I", .lays "PatchedMachineModel" "PatchedMachineModel" "gives" "[I", .lays "PatchedMachineModel" "PatchedMachineModel" "length" "[I", .lays "PatchedMachineModel" "PatchedMachineModel" "op" "[I", .lays "PatchedMachineModel" "PatchedMachineModel" "x" "[I", .lays "PatchedMachineModel" "PatchedMachineModel" "y" "[I", .lays "PatchedMachineModel" "PatchedMachineModel" "classes" "[I", .lays "PatchedMachineModel" "PatchedMachineModel" "methods" "[I", .lays "PatchedMachineModel" "PatchedMachineModel" "barred" "[I", .lays "PatchedMachineModel" "PatchedMachineModel" "waits" "I", .lays "PatchedMachineModel" "PatchedMachineModel" "done" "I", .lays "PatchedMachineModel" "PatchedMachineModel" "moves" "I", .lays "PatchedMachineModel" "PatchedMachineModel" "seen" "[I", .lays "PatchedMachineModel" "PatchedMachineModel" "height" "I", .lays "PatchedMachineModel" "PatchedMachineModel" "status" "I", .lays "PatchedMachineModel" "PatchedMachineModel" "result" "I", .lays "PatchedMachineModel" "PatchedMachineModel" "frames" "I", .lays "PatchedMachineModel" "PatchedMachineModel" "method" "[I", .lays "PatchedMachineModel" "PatchedMachineModel" "place" "[I", .lays "PatchedMachineModel" "PatchedMachineModel" "locals" "[I", .lays "PatchedMachineModel" "PatchedMachineModel" "stack" "[I", .lays "PatchedMachineModel" "PatchedMachineModel" "sort" "[I", .lays "PatchedMachineModel" "PatchedMachineModel" "top" "[I", .lays "PatchedMachineModel" "PatchedMachineModel" "made" "[I", .lays "PatchedMachineModel" "PatchedMachineModel" "held" "[I", .lays "PatchedMachineModel" "PatchedMachineModel" "led" "[Z", .lays "PatchedMachineModel" "PatchedMachineModel" "fresh" "[I", .lays "PatchedMachineModel" "PatchedMachineModel" "out" "[I", .lays "PatchedMachineModel" "PatchedMachineModel" "outs" "I", .methodLink "PatchedMachineModel" 89 y_M_in, .code y_M_in prog_12_method_2_code 3 (some .boolean), .initialized "PatchedMachineModel", .static y_M_in, .methodLink "PatchedMachineModel" 191 y_M_step, .code y_M_step prog_12_method_41_code 7 none, .instanceMethod y_M_step, .selects "PatchedMachineModel" y_M_step y_M_step, .fieldLink "PatchedMachineModel" 157 "PatchedMachineModel" "frames" "I", .methodLink "PatchedMachineModel" 154 y_M_settle, .code y_M_settle prog_12_method_26_code 2 none, .instanceMethod y_M_settle, .selects "PatchedMachineModel" y_M_settle y_M_settle]
set_option maxRecDepth 100000 in
theorem u_M_run : ∀ w ∈ t_M_run, w ∈ am_tb := am_subI [852, 867, 869, 871, 873, 875, 877, 879, 881, 883, 885, 887, 889, 891, 893, 895, 897, 899, 901, 903, 905, 907, 909, 911, 913, 915, 917, 919, 921, 923, 925, 927, 929, 931, 933, 940, 942, 115, 941, 1078, 1081, 1080, 97, 854, 1026, 1029, 1028, 91] (by decide +kernel) (by decide +kernel)
set_option maxRecDepth 100000 in
theorem s_M_run (l : Launch) : am_Sd l am_cl y_M_run (am_ws y_M_run prog_12_method_38_code 3 (some .int)) 5 121 f_M_run :=
  am_meth (by decide +kernel) (Or.inl ⟨rfl, rfl⟩) rfl (by decide) am_htc g_M_run (am_ctx (cb := cb_M_run) t_M_run [(89, .invokestatic 89), (191, .invokevirtual 191), (154, .invokevirtual 154)] "PatchedMachine" false [157] [] u_M_run rfl (by decide +kernel) (fun h => by cases h)
    (List.forall_mem_cons.mpr ⟨am_KS (na := 3) u_M_run (s_M_in l) (by decide +kernel) (by decide +kernel), (List.forall_mem_cons.mpr ⟨am_KV (na := 0) u_M_run (s_M_step l) rfl (by decide +kernel) (by decide +kernel), (List.forall_mem_cons.mpr ⟨am_KV (na := 0) u_M_run (s_M_settle l) rfl (by decide +kernel) (by decide +kernel), (fun _ h => absurd h List.not_mem_nil)⟩)⟩)⟩) (fun x t h => by cases h) (by decide +kernel))
def t_M_status : List Jvm.Cond := [.fieldLink "PatchedMachineModel" 182 "PatchedMachineModel" "status" "I", .lays "PatchedMachineModel" "PatchedMachineModel" "fields" "[I", .lays "PatchedMachineModel" "PatchedMachineModel" "name" "[I", .lays "PatchedMachineModel" "PatchedMachineModel" "type" "[I", .lays "PatchedMachineModel" "PatchedMachineModel" "source" "[I", .lays "PatchedMachineModel" "PatchedMachineModel" "parameters" "[I", .lays "PatchedMachineModel" "PatchedMachineModel" "kinds" "[I", .lays "PatchedMachineModel" "PatchedMachineModel" "gives" "[I", .lays "PatchedMachineModel" "PatchedMachineModel" "length" "[I", .lays "PatchedMachineModel" "PatchedMachineModel" "op" "[I", .lays "PatchedMachineModel" "PatchedMachineModel" "x" "[I", .lays "PatchedMachineModel" "PatchedMachineModel" "y" "[I", .lays "PatchedMachineModel" "PatchedMachineModel" "classes" "[I", .lays "PatchedMachineModel" "PatchedMachineModel" "methods" "[I", .lays "PatchedMachineModel" "PatchedMachineModel" "barred" "[I", .lays "PatchedMachineModel" "PatchedMachineModel" "waits" "I", .lays "PatchedMachineModel" "PatchedMachineModel" "done" "I", .lays "PatchedMachineModel" "PatchedMachineModel" "moves" "I", .lays "PatchedMachineModel" "PatchedMachineModel" "seen" "[I", .lays "PatchedMachineModel" "PatchedMachineModel" "height" "I", .lays "PatchedMachineModel" "PatchedMachineModel" "status" "I", .lays "PatchedMachineModel" "PatchedMachineModel" "result" "I", .lays "PatchedMachineModel" "PatchedMachineModel" "frames" "I", .lays "PatchedMachineModel" "PatchedMachineModel" "method" "[I", .lays "PatchedMachineModel" "PatchedMachineModel" "place" "[I", .lays "PatchedMachineModel" "PatchedMachineModel" "locals" "[I", .lays "PatchedMachineModel" "PatchedMachineModel" "stack" "[I", .lays "PatchedMachineModel" "PatchedMachineModel" "sort" "[I", .lays "PatchedMachineModel" "PatchedMachineModel" "top" "[I", .lays "PatchedMachineModel" "PatchedMachineModel" "made" "[I", .lays "PatchedMachineModel" "PatchedMachineModel" "held" "[I", .lays "PatchedMachineModel" "PatchedMachineModel" "led" "[Z", .lays "PatchedMachineModel" "PatchedMachineModel" "fresh" "[I", .lays "PatchedMachineModel" "PatchedMachineModel" "out" "[I", .lays "PatchedMachineModel" "PatchedMachineModel" "outs" "I"]
set_option maxRecDepth 100000 in
theorem u_M_status : ∀ w ∈ t_M_status, w ∈ am_tb := am_subI [852, 867, 869, 871, 873, 875, 877, 879, 881, 883, 885, 887, 889, 891, 893, 895, 897, 899, 901, 903, 905, 907, 909, 911, 913, 915, 917, 919, 921, 923, 925, 927, 929, 931, 933] (by decide +kernel) (by decide +kernel)
set_option maxRecDepth 100000 in
theorem s_M_status (l : Launch) : am_Sd l am_cl y_M_status (am_ws y_M_status prog_12_method_45_code 1 (some .int)) 0 0 f_M_status :=
  am_meth (by decide +kernel) (Or.inl ⟨rfl, rfl⟩) rfl (by decide) am_htc g_M_status (am_ctx (cb := cb_M_status) t_M_status [] "PatchedMachine" false [] [] u_M_status rfl (by decide +kernel) (fun h => by cases h)
    (fun _ h => absurd h List.not_mem_nil) (fun x t h => by cases h) (by decide +kernel))
def t_M_result : List Jvm.Cond := [.fieldLink "PatchedMachineModel" 182 "PatchedMachineModel" "status" "I", .lays "PatchedMachineModel" "PatchedMachineModel" "fields" "[I", .lays "PatchedMachineModel" "PatchedMachineModel" "name" "[I", .lays "PatchedMachineModel" "PatchedMachineModel" "type" "[I", .lays "PatchedMachineModel" "PatchedMachineModel" "source" "[I", .lays "PatchedMachineModel" "PatchedMachineModel" "parameters" "[I", .lays "PatchedMachineModel" "PatchedMachineModel" "kinds" "[I", .lays "PatchedMachineModel" "PatchedMachineModel" "gives" "[I", .lays "PatchedMachineModel" "PatchedMachineModel" "length" "[I", .lays "PatchedMachineModel" "PatchedMachineModel" "op" "[I", .lays "PatchedMachineModel" "PatchedMachineModel" "x" "[I", .lays "PatchedMachineModel" "PatchedMachineModel" "y" "[I", .lays "PatchedMachineModel" "PatchedMachineModel" "classes" "[I", .lays "PatchedMachineModel" "PatchedMachineModel" "methods" "[I", .lays "PatchedMachineModel" "PatchedMachineModel" "barred" "[I", .lays "PatchedMachineModel" "PatchedMachineModel" "waits" "I", .lays "PatchedMachineModel" "PatchedMachineModel" "done" "I", .lays "PatchedMachineModel" "PatchedMachineModel" "moves" "I", .lays "PatchedMachineModel" "PatchedMachineModel" "seen" "[I", .lays "PatchedMachineModel" "PatchedMachineModel" "height" "I", .lays "PatchedMachineModel" "PatchedMachineModel" "status" "I", .lays "PatchedMachineModel" "PatchedMachineModel" "result" "I", .lays "PatchedMachineModel" "PatchedMachineModel" "frames" "I", .lays "PatchedMachineModel" "PatchedMachineModel" "method" "[I", .lays "PatchedMachineModel" "PatchedMachineModel" "place" "[I", .lays "PatchedMachineModel" "PatchedMachineModel" "locals" "[I", .lays "PatchedMachineModel" "PatchedMachineModel" "stack" "[I", .lays "PatchedMachineModel" "PatchedMachineModel" "sort" "[I", .lays "PatchedMachineModel" "PatchedMachineModel" "top" "[I", .lays "PatchedMachineModel" "PatchedMachineModel" "made" "[I", .lays "PatchedMachineModel" "PatchedMachineModel" "held" "[I", .lays "PatchedMachineModel" "PatchedMachineModel" "led" "[Z", .lays "PatchedMachineModel" "PatchedMachineModel" "fresh" "[I", .lays "PatchedMachineModel" "PatchedMachineModel" "out" "[I", .lays "PatchedMachineModel" "PatchedMachineModel" "outs" "I", .fieldLink "PatchedMachineModel" 185 "PatchedMachineModel" "result" "I"]
set_option maxRecDepth 100000 in
theorem u_M_result : ∀ w ∈ t_M_result, w ∈ am_tb := am_subI [852, 867, 869, 871, 873, 875, 877, 879, 881, 883, 885, 887, 889, 891, 893, 895, 897, 899, 901, 903, 905, 907, 909, 911, 913, 915, 917, 919, 921, 923, 925, 927, 929, 931, 933, 853] (by decide +kernel) (by decide +kernel)
set_option maxRecDepth 100000 in
theorem s_M_result (l : Launch) : am_Sd l am_cl y_M_result (am_ws y_M_result prog_12_method_46_code 1 (some .int)) 0 0 f_M_result :=
  am_meth (by decide +kernel) (Or.inl ⟨rfl, rfl⟩) rfl (by decide) am_htc g_M_result (am_ctx (cb := cb_M_result) t_M_result [] "PatchedMachine" false [] [] u_M_result rfl (by decide +kernel) (fun h => by cases h)
    (fun _ h => absurd h List.not_mem_nil) (fun x t h => by cases h) (by decide +kernel))
def t_M_depth : List Jvm.Cond := [.fieldLink "PatchedMachineModel" 157 "PatchedMachineModel" "frames" "I", .lays "PatchedMachineModel" "PatchedMachineModel" "fields" "[I", .lays "PatchedMachineModel" "PatchedMachineModel" "name" "[I", .lays "PatchedMachineModel" "PatchedMachineModel" "type" "[I", .lays "PatchedMachineModel" "PatchedMachineModel" "source" "[I", .lays "PatchedMachineModel" "PatchedMachineModel" "parameters" "[I", .lays "PatchedMachineModel" "PatchedMachineModel" "kinds" "[I", .lays "PatchedMachineModel" "PatchedMachineModel" "gives" "[I", .lays "PatchedMachineModel" "PatchedMachineModel" "length" "[I", .lays "PatchedMachineModel" "PatchedMachineModel" "op" "[I", .lays "PatchedMachineModel" "PatchedMachineModel" "x" "[I", .lays "PatchedMachineModel" "PatchedMachineModel" "y" "[I", .lays "PatchedMachineModel" "PatchedMachineModel" "classes" "[I", .lays "PatchedMachineModel" "PatchedMachineModel" "methods" "[I", .lays "PatchedMachineModel" "PatchedMachineModel" "barred" "[I", .lays "PatchedMachineModel" "PatchedMachineModel" "waits" "I", .lays "PatchedMachineModel" "PatchedMachineModel" "done" "I", .lays "PatchedMachineModel" "PatchedMachineModel" "moves" "I", .lays "PatchedMachineModel" "PatchedMachineModel" "seen" "[I", .lays "PatchedMachineModel" "PatchedMachineModel" "height" "I", .lays "PatchedMachineModel" "PatchedMachineModel" "status" "I", .lays "PatchedMachineModel" "PatchedMachineModel" "result" "I", .lays "PatchedMachineModel" "PatchedMachineModel" "frames" "I", .lays "PatchedMachineModel" "PatchedMachineModel" "method" "[I", .lays "PatchedMachineModel" "PatchedMachineModel" "place" "[I", .lays "PatchedMachineModel" "PatchedMachineModel" "locals" "[I", .lays "PatchedMachineModel" "PatchedMachineModel" "stack" "[I", .lays "PatchedMachineModel" "PatchedMachineModel" "sort" "[I", .lays "PatchedMachineModel" "PatchedMachineModel" "top" "[I", .lays "PatchedMachineModel" "PatchedMachineModel" "made" "[I", .lays "PatchedMachineModel" "PatchedMachineModel" "held" "[I", .lays "PatchedMachineModel" "PatchedMachineModel" "led" "[Z", .lays "PatchedMachineModel" "PatchedMachineModel" "fresh" "[I", .lays "PatchedMachineModel" "PatchedMachineModel" "out" "[I", .lays "PatchedMachineModel" "PatchedMachineModel" "outs" "I"]
set_option maxRecDepth 100000 in
theorem u_M_depth : ∀ w ∈ t_M_depth, w ∈ am_tb := am_subI [854, 867, 869, 871, 873, 875, 877, 879, 881, 883, 885, 887, 889, 891, 893, 895, 897, 899, 901, 903, 905, 907, 909, 911, 913, 915, 917, 919, 921, 923, 925, 927, 929, 931, 933] (by decide +kernel) (by decide +kernel)
set_option maxRecDepth 100000 in
theorem s_M_depth (l : Launch) : am_Sd l am_cl y_M_depth (am_ws y_M_depth prog_12_method_47_code 1 (some .int)) 0 0 f_M_depth :=
  am_meth (by decide +kernel) (Or.inl ⟨rfl, rfl⟩) rfl (by decide) am_htc g_M_depth (am_ctx (cb := cb_M_depth) t_M_depth [] "PatchedMachine" false [] [] u_M_depth rfl (by decide +kernel) (fun h => by cases h)
    (fun _ h => absurd h List.not_mem_nil) (fun x t h => by cases h) (by decide +kernel))
def t_M_frame : List Jvm.Cond := [.fieldLink "PatchedMachineModel" 157 "PatchedMachineModel" "frames" "I", .lays "PatchedMachineModel" "PatchedMachineModel" "fields" "[I", .lays "PatchedMachineModel" "PatchedMachineModel" "name" "[I", .lays "PatchedMachineModel" "PatchedMachineModel" "type" "[I", .lays "PatchedMachineModel" "PatchedMachineModel" "source" "[I", .lays "PatchedMachineModel" "PatchedMachineModel" "parameters" "[I", .lays "PatchedMachineModel" "PatchedMachineModel" "kinds" "[I", .lays "PatchedMachineModel" "PatchedMachineModel" "gives" "[I", .lays "PatchedMachineModel" "PatchedMachineModel" "length" "[I", .lays "PatchedMachineModel" "PatchedMachineModel" "op" "[I", .lays "PatchedMachineModel" "PatchedMachineModel" "x" "[I", .lays "PatchedMachineModel" "PatchedMachineModel" "y" "[I", .lays "PatchedMachineModel" "PatchedMachineModel" "classes" "[I", .lays "PatchedMachineModel" "PatchedMachineModel" "methods" "[I", .lays "PatchedMachineModel" "PatchedMachineModel" "barred" "[I", .lays "PatchedMachineModel" "PatchedMachineModel" "waits" "I", .lays "PatchedMachineModel" "PatchedMachineModel" "done" "I", .lays "PatchedMachineModel" "PatchedMachineModel" "moves" "I", .lays "PatchedMachineModel" "PatchedMachineModel" "seen" "[I", .lays "PatchedMachineModel" "PatchedMachineModel" "height" "I", .lays "PatchedMachineModel" "PatchedMachineModel" "status" "I", .lays "PatchedMachineModel" "PatchedMachineModel" "result" "I", .lays "PatchedMachineModel" "PatchedMachineModel" "frames" "I", .lays "PatchedMachineModel" "PatchedMachineModel" "method" "[I", .lays "PatchedMachineModel" "PatchedMachineModel" "place" "[I", .lays "PatchedMachineModel" "PatchedMachineModel" "locals" "[I", .lays "PatchedMachineModel" "PatchedMachineModel" "stack" "[I", .lays "PatchedMachineModel" "PatchedMachineModel" "sort" "[I", .lays "PatchedMachineModel" "PatchedMachineModel" "top" "[I", .lays "PatchedMachineModel" "PatchedMachineModel" "made" "[I", .lays "PatchedMachineModel" "PatchedMachineModel" "held" "[I", .lays "PatchedMachineModel" "PatchedMachineModel" "led" "[Z", .lays "PatchedMachineModel" "PatchedMachineModel" "fresh" "[I", .lays "PatchedMachineModel" "PatchedMachineModel" "out" "[I", .lays "PatchedMachineModel" "PatchedMachineModel" "outs" "I", .fieldLink "PatchedMachineModel" 55 "PatchedMachineModel" "method" "[I", .fieldLink "PatchedMachineModel" 58 "PatchedMachineModel" "place" "[I"]
set_option maxRecDepth 100000 in
theorem u_M_frame : ∀ w ∈ t_M_frame, w ∈ am_tb := am_subI [854, 867, 869, 871, 873, 875, 877, 879, 881, 883, 885, 887, 889, 891, 893, 895, 897, 899, 901, 903, 905, 907, 909, 911, 913, 915, 917, 919, 921, 923, 925, 927, 929, 931, 933, 855, 856] (by decide +kernel) (by decide +kernel)
set_option maxRecDepth 100000 in
theorem s_M_frame (l : Launch) : am_Sd l am_cl y_M_frame (am_ws y_M_frame prog_12_method_48_code 3 (some .int)) 0 0 f_M_frame :=
  am_meth (by decide +kernel) (Or.inl ⟨rfl, rfl⟩) rfl (by decide) am_htc g_M_frame (am_ctx (cb := cb_M_frame) t_M_frame [] "PatchedMachine" false [] [] u_M_frame rfl (by decide +kernel) (fun h => by cases h)
    (fun _ h => absurd h List.not_mem_nil) (fun x t h => by cases h) (by decide +kernel))
def t_M_output : List Jvm.Cond := [.methodLink "PatchedMachineModel" 89 y_M_in, .code y_M_in prog_12_method_2_code 3 (some .boolean), .initialized "PatchedMachineModel", .static y_M_in, .fieldLink "PatchedMachineModel" 207 "PatchedMachineModel" "outs" "I", .lays "PatchedMachineModel" "PatchedMachineModel" "fields" "[I", .lays "PatchedMachineModel" "PatchedMachineModel" "name" "[I", .lays "PatchedMachineModel" "PatchedMachineModel" "type" "[I", .lays "PatchedMachineModel" "PatchedMachineModel" "source" "[I", .lays "PatchedMachineModel" "PatchedMachineModel" "parameters" "[I", .lays "PatchedMachineModel" "PatchedMachineModel" "kinds" "[I", .lays "PatchedMachineModel" "PatchedMachineModel" "gives" "[I", .lays "PatchedMachineModel" "PatchedMachineModel" "length" "[I", .lays "PatchedMachineModel" "PatchedMachineModel" "op" "[I", .lays "PatchedMachineModel" "PatchedMachineModel" "x" "[I", .lays "PatchedMachineModel" "PatchedMachineModel" "y" "[I", .lays "PatchedMachineModel" "PatchedMachineModel" "classes" "[I", .lays "PatchedMachineModel" "PatchedMachineModel" "methods" "[I", .lays "PatchedMachineModel" "PatchedMachineModel" "barred" "[I", .lays "PatchedMachineModel" "PatchedMachineModel" "waits" "I", .lays "PatchedMachineModel" "PatchedMachineModel" "done" "I", .lays "PatchedMachineModel" "PatchedMachineModel" "moves" "I", .lays "PatchedMachineModel" "PatchedMachineModel" "seen" "[I", .lays "PatchedMachineModel" "PatchedMachineModel" "height" "I", .lays "PatchedMachineModel" "PatchedMachineModel" "status" "I", .lays "PatchedMachineModel" "PatchedMachineModel" "result" "I", .lays "PatchedMachineModel" "PatchedMachineModel" "frames" "I", .lays "PatchedMachineModel" "PatchedMachineModel" "method" "[I", .lays "PatchedMachineModel" "PatchedMachineModel" "place" "[I", .lays "PatchedMachineModel" "PatchedMachineModel" "locals" "[I", .lays "PatchedMachineModel" "PatchedMachineModel" "stack" "[I", .lays "PatchedMachineModel" "PatchedMachineModel" "sort" "[I", .lays "PatchedMachineModel" "PatchedMachineModel" "top" "[I", .lays "PatchedMachineModel" "PatchedMachineModel" "made" "[I", .lays "PatchedMachineModel" "PatchedMachineModel" "held" "[I", .lays "PatchedMachineModel" "PatchedMachineModel" "led" "[Z", .lays "PatchedMachineModel" "PatchedMachineModel" "fresh" "[I", .lays "PatchedMachineModel" "PatchedMachineModel" "out" "[I", .lays "PatchedMachineModel" "PatchedMachineModel" "outs" "I", .fieldLink "PatchedMachineModel" 86 "PatchedMachineModel" "out" "[I"]
set_option maxRecDepth 100000 in
theorem u_M_output : ∀ w ∈ t_M_output, w ∈ am_tb := am_subI [940, 942, 115, 941, 866, 867, 869, 871, 873, 875, 877, 879, 881, 883, 885, 887, 889, 891, 893, 895, 897, 899, 901, 903, 905, 907, 909, 911, 913, 915, 917, 919, 921, 923, 925, 927, 929, 931, 933, 865] (by decide +kernel) (by decide +kernel)
set_option maxRecDepth 100000 in
theorem s_M_output (l : Launch) : am_Sd l am_cl y_M_output (am_ws y_M_output prog_12_method_49_code 2 (some .int)) 1 22 f_M_output :=
  am_meth (by decide +kernel) (Or.inl ⟨rfl, rfl⟩) rfl (by decide) am_htc g_M_output (am_ctx (cb := cb_M_output) t_M_output [(89, .invokestatic 89)] "PatchedMachine" false [] [] u_M_output rfl (by decide +kernel) (fun h => by cases h)
    (List.forall_mem_cons.mpr ⟨am_KS (na := 3) u_M_output (s_M_in l) (by decide +kernel) (by decide +kernel), (fun _ h => absurd h List.not_mem_nil)⟩) (fun x t h => by cases h) (by decide +kernel))
def t_M_outputs : List Jvm.Cond := [.fieldLink "PatchedMachineModel" 207 "PatchedMachineModel" "outs" "I", .lays "PatchedMachineModel" "PatchedMachineModel" "fields" "[I", .lays "PatchedMachineModel" "PatchedMachineModel" "name" "[I", .lays "PatchedMachineModel" "PatchedMachineModel" "type" "[I", .lays "PatchedMachineModel" "PatchedMachineModel" "source" "[I", .lays "PatchedMachineModel" "PatchedMachineModel" "parameters" "[I", .lays "PatchedMachineModel" "PatchedMachineModel" "kinds" "[I", .lays "PatchedMachineModel" "PatchedMachineModel" "gives" "[I", .lays "PatchedMachineModel" "PatchedMachineModel" "length" "[I", .lays "PatchedMachineModel" "PatchedMachineModel" "op" "[I", .lays "PatchedMachineModel" "PatchedMachineModel" "x" "[I", .lays "PatchedMachineModel" "PatchedMachineModel" "y" "[I", .lays "PatchedMachineModel" "PatchedMachineModel" "classes" "[I", .lays "PatchedMachineModel" "PatchedMachineModel" "methods" "[I", .lays "PatchedMachineModel" "PatchedMachineModel" "barred" "[I", .lays "PatchedMachineModel" "PatchedMachineModel" "waits" "I", .lays "PatchedMachineModel" "PatchedMachineModel" "done" "I", .lays "PatchedMachineModel" "PatchedMachineModel" "moves" "I", .lays "PatchedMachineModel" "PatchedMachineModel" "seen" "[I", .lays "PatchedMachineModel" "PatchedMachineModel" "height" "I", .lays "PatchedMachineModel" "PatchedMachineModel" "status" "I", .lays "PatchedMachineModel" "PatchedMachineModel" "result" "I", .lays "PatchedMachineModel" "PatchedMachineModel" "frames" "I", .lays "PatchedMachineModel" "PatchedMachineModel" "method" "[I", .lays "PatchedMachineModel" "PatchedMachineModel" "place" "[I", .lays "PatchedMachineModel" "PatchedMachineModel" "locals" "[I", .lays "PatchedMachineModel" "PatchedMachineModel" "stack" "[I", .lays "PatchedMachineModel" "PatchedMachineModel" "sort" "[I", .lays "PatchedMachineModel" "PatchedMachineModel" "top" "[I", .lays "PatchedMachineModel" "PatchedMachineModel" "made" "[I", .lays "PatchedMachineModel" "PatchedMachineModel" "held" "[I", .lays "PatchedMachineModel" "PatchedMachineModel" "led" "[Z", .lays "PatchedMachineModel" "PatchedMachineModel" "fresh" "[I", .lays "PatchedMachineModel" "PatchedMachineModel" "out" "[I", .lays "PatchedMachineModel" "PatchedMachineModel" "outs" "I"]
set_option maxRecDepth 100000 in
theorem u_M_outputs : ∀ w ∈ t_M_outputs, w ∈ am_tb := am_subI [866, 867, 869, 871, 873, 875, 877, 879, 881, 883, 885, 887, 889, 891, 893, 895, 897, 899, 901, 903, 905, 907, 909, 911, 913, 915, 917, 919, 921, 923, 925, 927, 929, 931, 933] (by decide +kernel) (by decide +kernel)
set_option maxRecDepth 100000 in
theorem s_M_outputs (l : Launch) : am_Sd l am_cl y_M_outputs (am_ws y_M_outputs prog_12_method_50_code 1 (some .int)) 0 0 f_M_outputs :=
  am_meth (by decide +kernel) (Or.inl ⟨rfl, rfl⟩) rfl (by decide) am_htc g_M_outputs (am_ctx (cb := cb_M_outputs) t_M_outputs [] "PatchedMachine" false [] [] u_M_outputs rfl (by decide +kernel) (fun h => by cases h)
    (fun _ h => absurd h List.not_mem_nil) (fun x t h => by cases h) (by decide +kernel))
def t_M_shape : List Jvm.Cond := [.methodLink "PatchedMachineModel" 89 y_M_in, .code y_M_in prog_12_method_2_code 3 (some .boolean), .initialized "PatchedMachineModel", .static y_M_in, .fieldLink "PatchedMachineModel" 7 "PatchedMachineModel" "fields" "[I", .lays "PatchedMachineModel" "PatchedMachineModel" "fields" "[I", .lays "PatchedMachineModel" "PatchedMachineModel" "name" "[I", .lays "PatchedMachineModel" "PatchedMachineModel" "type" "[I", .lays "PatchedMachineModel" "PatchedMachineModel" "source" "[I", .lays "PatchedMachineModel" "PatchedMachineModel" "parameters" "[I", .lays "PatchedMachineModel" "PatchedMachineModel" "kinds" "[I", .lays "PatchedMachineModel" "PatchedMachineModel" "gives" "[I", .lays "PatchedMachineModel" "PatchedMachineModel" "length" "[I", .lays "PatchedMachineModel" "PatchedMachineModel" "op" "[I", .lays "PatchedMachineModel" "PatchedMachineModel" "x" "[I", .lays "PatchedMachineModel" "PatchedMachineModel" "y" "[I", .lays "PatchedMachineModel" "PatchedMachineModel" "classes" "[I", .lays "PatchedMachineModel" "PatchedMachineModel" "methods" "[I", .lays "PatchedMachineModel" "PatchedMachineModel" "barred" "[I", .lays "PatchedMachineModel" "PatchedMachineModel" "waits" "I", .lays "PatchedMachineModel" "PatchedMachineModel" "done" "I", .lays "PatchedMachineModel" "PatchedMachineModel" "moves" "I", .lays "PatchedMachineModel" "PatchedMachineModel" "seen" "[I", .lays "PatchedMachineModel" "PatchedMachineModel" "height" "I", .lays "PatchedMachineModel" "PatchedMachineModel" "status" "I", .lays "PatchedMachineModel" "PatchedMachineModel" "result" "I", .lays "PatchedMachineModel" "PatchedMachineModel" "frames" "I", .lays "PatchedMachineModel" "PatchedMachineModel" "method" "[I", .lays "PatchedMachineModel" "PatchedMachineModel" "place" "[I", .lays "PatchedMachineModel" "PatchedMachineModel" "locals" "[I", .lays "PatchedMachineModel" "PatchedMachineModel" "stack" "[I", .lays "PatchedMachineModel" "PatchedMachineModel" "sort" "[I", .lays "PatchedMachineModel" "PatchedMachineModel" "top" "[I", .lays "PatchedMachineModel" "PatchedMachineModel" "made" "[I", .lays "PatchedMachineModel" "PatchedMachineModel" "held" "[I", .lays "PatchedMachineModel" "PatchedMachineModel" "led" "[Z", .lays "PatchedMachineModel" "PatchedMachineModel" "fresh" "[I", .lays "PatchedMachineModel" "PatchedMachineModel" "out" "[I", .lays "PatchedMachineModel" "PatchedMachineModel" "outs" "I", .fieldLink "PatchedMachineModel" 13 "PatchedMachineModel" "name" "[I", .fieldLink "PatchedMachineModel" 16 "PatchedMachineModel" "type" "[I"]
set_option maxRecDepth 100000 in
theorem u_M_shape : ∀ w ∈ t_M_shape, w ∈ am_tb := am_subI [940, 942, 115, 941, 833, 867, 869, 871, 873, 875, 877, 879, 881, 883, 885, 887, 889, 891, 893, 895, 897, 899, 901, 903, 905, 907, 909, 911, 913, 915, 917, 919, 921, 923, 925, 927, 929, 931, 933, 834, 835] (by decide +kernel) (by decide +kernel)
set_option maxRecDepth 100000 in
theorem s_M_shape (l : Launch) : am_Sd l am_cl y_M_shape (am_ws y_M_shape prog_12_method_51_code 3 (some .int)) 1 22 f_M_shape :=
  am_meth (by decide +kernel) (Or.inl ⟨rfl, rfl⟩) rfl (by decide) am_htc g_M_shape (am_ctx (cb := cb_M_shape) t_M_shape [(89, .invokestatic 89)] "PatchedMachine" false [] [] u_M_shape rfl (by decide +kernel) (fun h => by cases h)
    (List.forall_mem_cons.mpr ⟨am_KS (na := 3) u_M_shape (s_M_in l) (by decide +kernel) (by decide +kernel), (fun _ h => absurd h List.not_mem_nil)⟩) (fun x t h => by cases h) (by decide +kernel))
end
section
theorem am_ctxL {l : Launch} {y : MethodName} {cl : List vw_C} {cc : ByteArray} {nL fr lo : Nat} {co : List (Nat × Instr)} {fl : List (Nat × Nat × Nat × Nat)} {cb : List (Instr × Nat × Nat × Option Nat × am_F)} {ne : List (Nat × Nat × List (Option (Option Nat)))} {ar : List (Nat × Nat)} {sc : Option (Nat × (Nat → Int32))} {re : Nat} (Ts : List Jvm.Cond) (kl : List (Nat × Instr)) (host : String) (al : List Nat) (hsub : ∀ w ∈ Ts, w ∈ am_tb)
    (hk : kl = cb.map (fun z => (z.2.1, z.1))) (hck : am_ck cl Ts y.cls host false cc nL co fl kl ne ar [] al = true) (hcal : ∀ z ∈ cb, am_K l y cl cc nL fr lo z) (hgr : ∀ x t, ar.lookup x = some t → x ∉ al → am_Kg l y cl cc nL x t) (hdm : co.all (fun q => match q.2 with
      | .multianewarray x k => decide (k = 2) && !al.contains x
      | _ => true) = true) : ∀ (p : Program) (e : Env) (R : Room) (s : State) (m : MethodId) (args : Array Value) (below : List Frame) (meth : Method) (c : Code) (A : Nat → Prop) (D : va_G) (cy : Nat → ClassId) (tys : List (ClassId × FieldType)) (sb n0 s0 : Nat),
    CallFix p m c cc nL s args am_tb y.cls → am_NW s → va_K D cl tys s → (∀ t ty, am_ty t = some ty → tys[t]? = some (cy t, ty)) → (∀ q, s.heap.size ≤ q → A q) → R.frames = fr → R.locals = lo →
    ∀ pc i, am_code (am_mk co fl (cb.map (fun z => z.2)) ne ar sc re) pc = some i → am_V p l e R s m args below meth c cc am_tb y.cls A D cl cy sb nL n0 s0 (am_mk co fl (cb.map (fun z => z.2)) ne ar sc re) pc i := by
  subst hk
  intro p e R s m args below meth c A D cy tys sb n0 s0 S hN hK hty hA hR1 hR2 pc i hi
  unfold am_ck at hck
  simp only [Bool.and_eq_true] at hck
  obtain ⟨c1, c2, c3, c4, c5⟩ := hck
  have hmem : (pc, i) ∈ co := am_lookup_mem hi
  have d1 := List.all_eq_true.mp c1 _ hmem
  rw [Bool.and_eq_true] at d1
  obtain ⟨e1, e2⟩ := am_ckD_ok d1.1
  have d2 := d1.2
  have hts := S.2.2.2.2
  have call : ∀ x (q : Nat × Option Nat × am_F), (cb.map (fun z => (z.2.1, z.1))).lookup x = some i → am_len i = 3 → (cb.map (fun z => z.2)).lookup x = some q → am_cOK p l e R s m args below meth c A D cl cy sb nL n0 s0 pc q.1 q.2.1 q.2.2 := by
    intro x q h1 h3 h2
    obtain ⟨z, hz, g1, g2⟩ := am_cb_lookup h1 h2
    subst g1
    subst g2
    obtain ⟨len, g3, g4⟩ := e1
    have g5 : len = 3 := by
      dsimp only at g4
      rcases g4 with g4 | g4 <;> omega
    subst g5
    exact hcal z hz p e R s m args below meth c A D cy tys sb n0 s0 pc S hN hK hty hA hR1 hR2 g3
  refine ⟨e1, e2, ?_⟩
  cases i with
  | getfield x =>
    intro q hq
    exact am_ckG_ok hts hsub (List.all_eq_true.mp c2 _ (am_lookup_mem hq))
  | putfield x =>
    intro q hq
    have hx : x ∈ ([] : List Nat) := by simpa [am_ckI] using d2
    cases hx
  | new x =>
    intro q hq
    exact am_ckN_ok hts hsub (List.all_eq_true.mp c4 _ (am_lookup_mem hq))
  | newarray t =>
    refine ⟨fun h => ?_, fun h => ?_⟩
    · subst h; exact am_in_ok hts hsub d2
    · subst h; exact am_in_ok hts hsub d2
  | anewarray x =>
    intro t ht
    have ht : ar.lookup x = some t := ht
    have hx : x ∈ al := by simpa [am_ckI] using d2
    have := List.all_eq_true.mp c5 x hx
    rw [ht] at this
    have this : am_ckA Ts y.cls x t = true := this
    unfold am_ckA at this
    split at this
    · rename_i C hC
      rw [Bool.and_eq_true] at this
      exact ⟨C, hC, am_in_ok hts hsub this.1, am_in_ok hts hsub this.2⟩
    · cases this
  | multianewarray x k =>
    intro t ht
    have := List.all_eq_true.mp hdm _ hmem
    simp only [Bool.and_eq_true] at this
    have hk2 : k = 2 := of_decide_eq_true this.1
    subst hk2
    obtain ⟨len, g3, g4⟩ := e1
    have g5 : len = 4 := by rcases g4 with g4 | g4; cases g4; exact g4.symm
    subst g5
    exact hgr x t ht (by simpa using this.2) p e R s m args below meth c A D cy tys n0 s0 pc S hN hK hty hA g3
  | invokevirtual x => intro q hq; exact call x q (of_decide_eq_true d2) rfl hq
  | invokespecial x => intro q hq; exact call x q (of_decide_eq_true d2) rfl hq
  | invokestatic x => intro q hq; exact call x q (of_decide_eq_true d2) rfl hq
  | _ => trivial
/-! printed by gen.py: the law -/
def y_W_law : MethodName := ⟨"PatchedMachineLaw", "law", "([I)Z"⟩
def co_W_law : List (Nat × Instr) := [(0, .new 7), (3, .dup), (4, .invokespecial 9), (7, .astore_n 1), (8, .new 10), (11, .dup), (12, .invokespecial 12), (15, .astore_n 2), (16, .iconst 0), (17, .istore_n 3), (18, .iload_n 3), (19, .aload_n 0), (20, .arraylength), (21, .iconst 5), (22, .isub), (23, .if_icmp .gt 561), (26, .aload_n 0), (27, .iload_n 3), (28, .iaload), (29, .bipush 31), (31, .iand), (32, .tableswitch 546 0 19 #[96, 119, 172, 225, 278, 291, 304, 317, 330, 343, 356, 379, 402, 415, 428, 441, 464, 477, 500, 513]), (128, .aload_n 1), (129, .aload_n 0), (130, .iload_n 3), (131, .iconst 1), (132, .iadd), (133, .iaload), (134, .invokevirtual 13), (137, .aload_n 2), (138, .aload_n 0), (139, .iload_n 3), (140, .iconst 1), (141, .iadd), (142, .iaload), (143, .invokevirtual 17), (146, .if_icmp .eq 432), (149, .iconst 0), (150, .ireturn), (151, .aload_n 1), (152, .aload_n 0), (153, .iload_n 3), (154, .iconst 1), (155, .iadd), (156, .iaload), (157, .aload_n 0), (158, .iload_n 3), (159, .iconst 2), (160, .iadd), (161, .iaload), (162, .aload_n 0), (163, .iload_n 3), (164, .iconst 3), (165, .iadd), (166, .iaload), (167, .aload_n 0), (168, .iload_n 3), (169, .iconst 4), (170, .iadd), (171, .iaload), (172, .invokevirtual 18), (175, .aload_n 2), (176, .aload_n 0), (177, .iload_n 3), (178, .iconst 1), (179, .iadd), (180, .iaload), (181, .aload_n 0), (182, .iload_n 3), (183, .iconst 2), (184, .iadd), (185, .iaload), (186, .aload_n 0), (187, .iload_n 3), (188, .iconst 3), (189, .iadd), (190, .iaload), (191, .aload_n 0), (192, .iload_n 3), (193, .iconst 4), (194, .iadd), (195, .iaload), (196, .invokevirtual 22), (199, .if_icmp .eq 379), (202, .iconst 0), (203, .ireturn), (204, .aload_n 1), (205, .aload_n 0), (206, .iload_n 3), (207, .iconst 1), (208, .iadd), (209, .iaload), (210, .aload_n 0), (211, .iload_n 3), (212, .iconst 2), (213, .iadd), (214, .iaload), (215, .aload_n 0), (216, .iload_n 3), (217, .iconst 3), (218, .iadd), (219, .iaload), (220, .aload_n 0), (221, .iload_n 3), (222, .iconst 4), (223, .iadd), (224, .iaload), (225, .invokevirtual 23), (228, .aload_n 2), (229, .aload_n 0), (230, .iload_n 3), (231, .iconst 1), (232, .iadd), (233, .iaload), (234, .aload_n 0), (235, .iload_n 3), (236, .iconst 2), (237, .iadd), (238, .iaload), (239, .aload_n 0), (240, .iload_n 3), (241, .iconst 3), (242, .iadd), (243, .iaload), (244, .aload_n 0), (245, .iload_n 3), (246, .iconst 4), (247, .iadd), (248, .iaload), (249, .invokevirtual 26), (252, .if_icmp .eq 326), (255, .iconst 0), (256, .ireturn), (257, .aload_n 1), (258, .aload_n 0), (259, .iload_n 3), (260, .iconst 1), (261, .iadd), (262, .iaload), (263, .aload_n 0), (264, .iload_n 3), (265, .iconst 2), (266, .iadd), (267, .iaload), (268, .aload_n 0), (269, .iload_n 3), (270, .iconst 3), (271, .iadd), (272, .iaload), (273, .aload_n 0), (274, .iload_n 3), (275, .iconst 4), (276, .iadd), (277, .iaload), (278, .invokevirtual 27), (281, .aload_n 2), (282, .aload_n 0), (283, .iload_n 3), (284, .iconst 1), (285, .iadd), (286, .iaload), (287, .aload_n 0), (288, .iload_n 3), (289, .iconst 2), (290, .iadd), (291, .iaload), (292, .aload_n 0), (293, .iload_n 3), (294, .iconst 3), (295, .iadd), (296, .iaload), (297, .aload_n 0), (298, .iload_n 3), (299, .iconst 4), (300, .iadd), (301, .iaload), (302, .invokevirtual 30), (305, .if_icmp .eq 273), (308, .iconst 0), (309, .ireturn), (310, .aload_n 1), (311, .invokevirtual 31), (314, .aload_n 2), (315, .invokevirtual 35), (318, .if_icmp .eq 260), (321, .iconst 0), (322, .ireturn), (323, .aload_n 1), (324, .invokevirtual 36), (327, .aload_n 2), (328, .invokevirtual 40), (331, .if_icmp .eq 247), (334, .iconst 0), (335, .ireturn), (336, .aload_n 1), (337, .invokevirtual 41), (340, .aload_n 2), (341, .invokevirtual 44), (344, .if_icmp .eq 234), (347, .iconst 0), (348, .ireturn), (349, .aload_n 1), (350, .invokevirtual 45), (353, .aload_n 2), (354, .invokevirtual 48), (357, .if_icmp .eq 221), (360, .iconst 0), (361, .ireturn), (362, .aload_n 1), (363, .invokevirtual 49), (366, .aload_n 2), (367, .invokevirtual 52), (370, .if_icmp .eq 208), (373, .iconst 0), (374, .ireturn), (375, .aload_n 1), (376, .invokevirtual 53), (379, .aload_n 2), (380, .invokevirtual 56), (383, .if_icmp .eq 195), (386, .iconst 0), (387, .ireturn), (388, .aload_n 1), (389, .aload_n 0), (390, .iload_n 3), (391, .iconst 1), (392, .iadd), (393, .iaload), (394, .invokevirtual 57), (397, .aload_n 2), (398, .aload_n 0), (399, .iload_n 3), (400, .iconst 1), (401, .iadd), (402, .iaload), (403, .invokevirtual 60), (406, .if_icmp .eq 172), (409, .iconst 0), (410, .ireturn), (411, .aload_n 1), (412, .aload_n 0), (413, .iload_n 3), (414, .iconst 1), (415, .iadd), (416, .iaload), (417, .invokevirtual 61), (420, .aload_n 2), (421, .aload_n 0), (422, .iload_n 3), (423, .iconst 1), (424, .iadd), (425, .iaload), (426, .invokevirtual 65), (429, .if_icmp .eq 149), (432, .iconst 0), (433, .ireturn), (434, .aload_n 1), (435, .invokevirtual 66), (438, .aload_n 2), (439, .invokevirtual 69), (442, .if_icmp .eq 136), (445, .iconst 0), (446, .ireturn), (447, .aload_n 1), (448, .invokevirtual 70), (451, .aload_n 2), (452, .invokevirtual 73), (455, .if_icmp .eq 123), (458, .iconst 0), (459, .ireturn), (460, .aload_n 1), (461, .invokevirtual 74), (464, .aload_n 2), (465, .invokevirtual 77), (468, .if_icmp .eq 110), (471, .iconst 0), (472, .ireturn), (473, .aload_n 1), (474, .aload_n 0), (475, .iload_n 3), (476, .iconst 1), (477, .iadd), (478, .iaload), (479, .invokevirtual 78), (482, .aload_n 2), (483, .aload_n 0), (484, .iload_n 3), (485, .iconst 1), (486, .iadd), (487, .iaload), (488, .invokevirtual 81), (491, .if_icmp .eq 87), (494, .iconst 0), (495, .ireturn), (496, .aload_n 1), (497, .invokevirtual 82), (500, .aload_n 2), (501, .invokevirtual 85), (504, .if_icmp .eq 74), (507, .iconst 0), (508, .ireturn), (509, .aload_n 1), (510, .aload_n 0), (511, .iload_n 3), (512, .iconst 1), (513, .iadd), (514, .iaload), (515, .invokevirtual 86), (518, .aload_n 2), (519, .aload_n 0), (520, .iload_n 3), (521, .iconst 1), (522, .iadd), (523, .iaload), (524, .invokevirtual 89), (527, .if_icmp .eq 51), (530, .iconst 0), (531, .ireturn), (532, .aload_n 1), (533, .invokevirtual 90), (536, .aload_n 2), (537, .invokevirtual 93), (540, .if_icmp .eq 38), (543, .iconst 0), (544, .ireturn), (545, .aload_n 1), (546, .aload_n 0), (547, .iload_n 3), (548, .iconst 1), (549, .iadd), (550, .iaload), (551, .aload_n 0), (552, .iload_n 3), (553, .iconst 2), (554, .iadd), (555, .iaload), (556, .invokevirtual 94), (559, .aload_n 2), (560, .aload_n 0), (561, .iload_n 3), (562, .iconst 1), (563, .iadd), (564, .iaload), (565, .aload_n 0), (566, .iload_n 3), (567, .iconst 2), (568, .iadd), (569, .iaload), (570, .invokevirtual 98), (573, .if_icmp .eq 5), (576, .iconst 0), (577, .ireturn), (578, .iinc 3 5), (581, .goto (-563)), (584, .iconst 1), (585, .ireturn)]
def cb_W_law : List (Instr × Nat × Nat × Option Nat × am_F) := [(.invokespecial 9, 9, 1, (some 9), f_X_init), (.invokespecial 12, 12, 1, (some 10), f_M_init), (.invokevirtual 13, 13, 2, (some 9), f_X_layout), (.invokevirtual 17, 17, 2, (some 10), f_M_layout), (.invokevirtual 18, 18, 5, (some 9), f_X_field), (.invokevirtual 22, 22, 5, (some 10), f_M_field), (.invokevirtual 23, 23, 5, (some 9), f_X_head), (.invokevirtual 26, 26, 5, (some 10), f_M_head), (.invokevirtual 27, 27, 5, (some 9), f_X_code), (.invokevirtual 30, 30, 5, (some 10), f_M_code), (.invokevirtual 31, 31, 1, (some 9), f_X_drop), (.invokevirtual 35, 35, 1, (some 10), f_M_drop), (.invokevirtual 36, 36, 1, (some 9), f_X_commit), (.invokevirtual 40, 40, 1, (some 10), f_M_commit), (.invokevirtual 41, 41, 1, (some 9), f_X_waiting), (.invokevirtual 44, 44, 1, (some 10), f_M_waiting), (.invokevirtual 45, 45, 1, (some 9), f_X_restricted), (.invokevirtual 48, 48, 1, (some 10), f_M_restricted), (.invokevirtual 49, 49, 1, (some 9), f_X_applied), (.invokevirtual 52, 52, 1, (some 10), f_M_applied), (.invokevirtual 53, 53, 1, (some 9), f_X_moved), (.invokevirtual 56, 56, 1, (some 10), f_M_moved), (.invokevirtual 57, 57, 2, (some 9), f_X_start), (.invokevirtual 60, 60, 2, (some 10), f_M_start), (.invokevirtual 61, 61, 2, (some 9), f_X_run), (.invokevirtual 65, 65, 2, (some 10), f_M_run), (.invokevirtual 66, 66, 1, (some 9), f_X_status), (.invokevirtual 69, 69, 1, (some 10), f_M_status), (.invokevirtual 70, 70, 1, (some 9), f_X_result), (.invokevirtual 73, 73, 1, (some 10), f_M_result), (.invokevirtual 74, 74, 1, (some 9), f_X_depth), (.invokevirtual 77, 77, 1, (some 10), f_M_depth), (.invokevirtual 78, 78, 2, (some 9), f_X_frame), (.invokevirtual 81, 81, 2, (some 10), f_M_frame), (.invokevirtual 82, 82, 1, (some 9), f_X_objects), (.invokevirtual 85, 85, 1, (some 10), f_M_objects), (.invokevirtual 86, 86, 2, (some 9), f_X_output), (.invokevirtual 89, 89, 2, (some 10), f_M_output), (.invokevirtual 90, 90, 1, (some 9), f_X_outputs), (.invokevirtual 93, 93, 1, (some 10), f_M_outputs), (.invokevirtual 94, 94, 3, (some 9), f_X_shape), (.invokevirtual 98, 98, 3, (some 10), f_M_shape)]
def m_W_law (L : Nat) (xs : Nat → Int32) : am_M := am_mk co_W_law [] (cb_W_law.map (fun z => z.2)) [(7, 9, [some none, some none, some none, some none, none, none]), (10, 10, [some none, some none, some none, some none, some none, some none, some none, some none, some none, some none, some none, some none, some none, some none, none, none, none, some none, none, none, none, none, some none, some none, some none, some none, some none, some none, some none, some none, some none, some none, some none, none])] [] (some (L, xs)) 1
theorem o_W_law (L : Nat) (xs : Nat → Int32) : am_ok (m_W_law L xs) := am_mk_ok (am_cb_ok (List.forall_mem_cons.mpr ⟨n_X_init, (List.forall_mem_cons.mpr ⟨n_M_init, (List.forall_mem_cons.mpr ⟨n_X_layout, (List.forall_mem_cons.mpr ⟨n_M_layout, (List.forall_mem_cons.mpr ⟨n_X_field, (List.forall_mem_cons.mpr ⟨n_M_field, (List.forall_mem_cons.mpr ⟨n_X_head, (List.forall_mem_cons.mpr ⟨n_M_head, (List.forall_mem_cons.mpr ⟨n_X_code, (List.forall_mem_cons.mpr ⟨n_M_code, (List.forall_mem_cons.mpr ⟨n_X_drop, (List.forall_mem_cons.mpr ⟨n_M_drop, (List.forall_mem_cons.mpr ⟨n_X_commit, (List.forall_mem_cons.mpr ⟨n_M_commit, (List.forall_mem_cons.mpr ⟨n_X_waiting, (List.forall_mem_cons.mpr ⟨n_M_waiting, (List.forall_mem_cons.mpr ⟨n_X_restricted, (List.forall_mem_cons.mpr ⟨n_M_restricted, (List.forall_mem_cons.mpr ⟨n_X_applied, (List.forall_mem_cons.mpr ⟨n_M_applied, (List.forall_mem_cons.mpr ⟨n_X_moved, (List.forall_mem_cons.mpr ⟨n_M_moved, (List.forall_mem_cons.mpr ⟨n_X_start, (List.forall_mem_cons.mpr ⟨n_M_start, (List.forall_mem_cons.mpr ⟨n_X_run, (List.forall_mem_cons.mpr ⟨n_M_run, (List.forall_mem_cons.mpr ⟨n_X_status, (List.forall_mem_cons.mpr ⟨n_M_status, (List.forall_mem_cons.mpr ⟨n_X_result, (List.forall_mem_cons.mpr ⟨n_M_result, (List.forall_mem_cons.mpr ⟨n_X_depth, (List.forall_mem_cons.mpr ⟨n_M_depth, (List.forall_mem_cons.mpr ⟨n_X_frame, (List.forall_mem_cons.mpr ⟨n_M_frame, (List.forall_mem_cons.mpr ⟨n_X_objects, (List.forall_mem_cons.mpr ⟨n_M_objects, (List.forall_mem_cons.mpr ⟨n_X_output, (List.forall_mem_cons.mpr ⟨n_M_output, (List.forall_mem_cons.mpr ⟨n_X_outputs, (List.forall_mem_cons.mpr ⟨n_M_outputs, (List.forall_mem_cons.mpr ⟨n_X_shape, (List.forall_mem_cons.mpr ⟨n_M_shape, (fun _ h => absurd h List.not_mem_nil)⟩)⟩)⟩)⟩)⟩)⟩)⟩)⟩)⟩)⟩)⟩)⟩)⟩)⟩)⟩)⟩)⟩)⟩)⟩)⟩)⟩)⟩)⟩)⟩)⟩)⟩)⟩)⟩)⟩)⟩)⟩)⟩)⟩)⟩)⟩)⟩)⟩)⟩)⟩)⟩)⟩)⟩))
theorem g_W_law (L : Nat) (xs : Nat → Int32) : ∀ x q, am_cal (m_W_law L xs) x = some q → am_grow q.2.2 := am_mk_grow (am_cb_gr (List.forall_mem_cons.mpr ⟨h_X_init, (List.forall_mem_cons.mpr ⟨h_M_init, (List.forall_mem_cons.mpr ⟨h_X_layout, (List.forall_mem_cons.mpr ⟨h_M_layout, (List.forall_mem_cons.mpr ⟨h_X_field, (List.forall_mem_cons.mpr ⟨h_M_field, (List.forall_mem_cons.mpr ⟨h_X_head, (List.forall_mem_cons.mpr ⟨h_M_head, (List.forall_mem_cons.mpr ⟨h_X_code, (List.forall_mem_cons.mpr ⟨h_M_code, (List.forall_mem_cons.mpr ⟨h_X_drop, (List.forall_mem_cons.mpr ⟨h_M_drop, (List.forall_mem_cons.mpr ⟨h_X_commit, (List.forall_mem_cons.mpr ⟨h_M_commit, (List.forall_mem_cons.mpr ⟨h_X_waiting, (List.forall_mem_cons.mpr ⟨h_M_waiting, (List.forall_mem_cons.mpr ⟨h_X_restricted, (List.forall_mem_cons.mpr ⟨h_M_restricted, (List.forall_mem_cons.mpr ⟨h_X_applied, (List.forall_mem_cons.mpr ⟨h_M_applied, (List.forall_mem_cons.mpr ⟨h_X_moved, (List.forall_mem_cons.mpr ⟨h_M_moved, (List.forall_mem_cons.mpr ⟨h_X_start, (List.forall_mem_cons.mpr ⟨h_M_start, (List.forall_mem_cons.mpr ⟨h_X_run, (List.forall_mem_cons.mpr ⟨h_M_run, (List.forall_mem_cons.mpr ⟨h_X_status, (List.forall_mem_cons.mpr ⟨h_M_status, (List.forall_mem_cons.mpr ⟨h_X_result, (List.forall_mem_cons.mpr ⟨h_M_result, (List.forall_mem_cons.mpr ⟨h_X_depth, (List.forall_mem_cons.mpr ⟨h_M_depth, (List.forall_mem_cons.mpr ⟨h_X_frame, (List.forall_mem_cons.mpr ⟨h_M_frame, (List.forall_mem_cons.mpr ⟨h_X_objects, (List.forall_mem_cons.mpr ⟨h_M_objects, (List.forall_mem_cons.mpr ⟨h_X_output, (List.forall_mem_cons.mpr ⟨h_M_output, (List.forall_mem_cons.mpr ⟨h_X_outputs, (List.forall_mem_cons.mpr ⟨h_M_outputs, (List.forall_mem_cons.mpr ⟨h_X_shape, (List.forall_mem_cons.mpr ⟨h_M_shape, (fun _ h => absurd h List.not_mem_nil)⟩)⟩)⟩)⟩)⟩)⟩)⟩)⟩)⟩)⟩)⟩)⟩)⟩)⟩)⟩)⟩)⟩)⟩)⟩)⟩)⟩)⟩)⟩)⟩)⟩)⟩)⟩)⟩)⟩)⟩)⟩)⟩)⟩)⟩)⟩)⟩)⟩)⟩)⟩)⟩)⟩)⟩))
def t_W_law : List Jvm.Cond := [.classLink "PatchedMachineLaw" 7 "PatchedMachine", .instantiable "PatchedMachine" 6, .initialized "PatchedMachine", .laysFinal "PatchedMachine" "PatchedMachine" "draft" "LPatchedMachine$Program;", .laysFinal "PatchedMachine" "PatchedMachine" "line" "LPatchedMachine$PatchLine;", .laysFinal "PatchedMachine" "PatchedMachine" "checker" "LPatchedMachine$Checker;", .laysFinal "PatchedMachine" "PatchedMachine" "runner" "LPatchedMachine$Runner;", .lays "PatchedMachine" "PatchedMachine" "applied" "I", .lays "PatchedMachine" "PatchedMachine" "moved" "I", .methodLink "PatchedMachineLaw" 9 y_X_init, .code y_X_init prog_1_method_1_code 1 none, .instanceMethod y_X_init, .classLink "PatchedMachineLaw" 10 "PatchedMachineModel", .instantiable "PatchedMachineModel" 34, .initialized "PatchedMachineModel", .lays "PatchedMachineModel" "PatchedMachineModel" "fields" "[I", .lays "PatchedMachineModel" "PatchedMachineModel" "name" "[I", .lays "PatchedMachineModel" "PatchedMachineModel" "type" "[I", .lays "PatchedMachineModel" "PatchedMachineModel" "source" "[I", .lays "PatchedMachineModel" "PatchedMachineModel" "parameters" "[I", .lays "PatchedMachineModel" "PatchedMachineModel" "kinds" "[I", .lays "PatchedMachineModel" "PatchedMachineModel" "gives" "[I", .lays "PatchedMachineModel" "PatchedMachineModel" "length" "[I", .lays "PatchedMachineModel" "PatchedMachineModel" "op" "[I", .lays "PatchedMachineModel" "PatchedMachineModel" "x" "[I", .lays "PatchedMachineModel" "PatchedMachineModel" "y" "[I", .lays "PatchedMachineModel" "PatchedMachineModel" "classes" "[I", .lays "PatchedMachineModel" "PatchedMachineModel" "methods" "[I", .lays "PatchedMachineModel" "PatchedMachineModel" "barred" "[I", .lays "PatchedMachineModel" "PatchedMachineModel" "waits" "I", .lays "PatchedMachineModel" "PatchedMachineModel" "done" "I", .lays "PatchedMachineModel" "PatchedMachineModel" "moves" "I", .lays "PatchedMachineModel" "PatchedMachineModel" "seen" "[I", .lays "PatchedMachineModel" "PatchedMachineModel" "height" "I", .lays "PatchedMachineModel" "PatchedMachineModel" "status" "I", .lays "PatchedMachineModel" "PatchedMachineModel" "result" "I", .lays "PatchedMachineModel" "PatchedMachineModel" "frames" "I", .lays "PatchedMachineModel" "PatchedMachineModel" "method" "[I", .lays "PatchedMachineModel" "PatchedMachineModel" "place" "[I", .lays "PatchedMachineModel" "PatchedMachineModel" "locals" "[I", .lays "PatchedMachineModel" "PatchedMachineModel" "stack" "[I", .lays "PatchedMachineModel" "PatchedMachineModel" "sort" "[I", .lays "PatchedMachineModel" "PatchedMachineModel" "top" "[I", .lays "PatchedMachineModel" "PatchedMachineModel" "made" "[I", .lays "PatchedMachineModel" "PatchedMachineModel" "held" "[I", .lays "PatchedMachineModel" "PatchedMachineModel" "led" "[Z", .lays "PatchedMachineModel" "PatchedMachineModel" "fresh" "[I", .lays "PatchedMachineModel" "PatchedMachineModel" "out" "[I", .lays "PatchedMachineModel" "PatchedMachineModel" "outs" "I", .methodLink "PatchedMachineLaw" 12 y_M_init, .code y_M_init prog_12_method_1_code 1 none, .instanceMethod y_M_init, .methodLink "PatchedMachineLaw" 13 y_X_layout, .code y_X_layout prog_1_method_2_code 2 (some .boolean), .instanceMethod y_X_layout, .selects "PatchedMachine" y_X_layout y_X_layout, .methodLink "PatchedMachineLaw" 17 y_M_layout, .code y_M_layout prog_12_method_6_code 2 (some .boolean), .instanceMethod y_M_layout, .selects "PatchedMachineModel" y_M_layout y_M_layout, .methodLink "PatchedMachineLaw" 18 y_X_field, .code y_X_field prog_1_method_3_code 6 (some .boolean), .instanceMethod y_X_field, .selects "PatchedMachine" y_X_field y_X_field, .methodLink "PatchedMachineLaw" 22 y_M_field, .code y_M_field prog_12_method_7_code 7 (some .boolean), .instanceMethod y_M_field, .selects "PatchedMachineModel" y_M_field y_M_field, .methodLink "PatchedMachineLaw" 23 y_X_head, .code y_X_head prog_1_method_4_code 5 (some .boolean), .instanceMethod y_X_head, .selects "PatchedMachine" y_X_head y_X_head, .methodLink "PatchedMachineLaw" 26 y_M_head, .code y_M_head prog_12_method_8_code 6 (some .boolean), .instanceMethod y_M_head, .selects "PatchedMachineModel" y_M_head y_M_head, .methodLink "PatchedMachineLaw" 27 y_X_code, .code y_X_code prog_1_method_5_code 5 (some .boolean), .instanceMethod y_X_code, .selects "PatchedMachine" y_X_code y_X_code, .methodLink "PatchedMachineLaw" 30 y_M_code, .code y_M_code prog_12_method_10_code 6 (some .boolean), .instanceMethod y_M_code, .selects "PatchedMachineModel" y_M_code y_M_code, .methodLink "PatchedMachineLaw" 31 y_X_drop, .code y_X_drop prog_1_method_6_code 1 (some .boolean), .instanceMethod y_X_drop, .selects "PatchedMachine" y_X_drop y_X_drop, .methodLink "PatchedMachineLaw" 35 y_M_drop, .code y_M_drop prog_12_method_12_code 1 (some .boolean), .instanceMethod y_M_drop, .selects "PatchedMachineModel" y_M_drop y_M_drop, .methodLink "PatchedMachineLaw" 36 y_X_commit, .code y_X_commit prog_1_method_7_code 2 (some .int), .instanceMethod y_X_commit, .selects "PatchedMachine" y_X_commit y_X_commit, .methodLink "PatchedMachineLaw" 40 y_M_commit, .code y_M_commit prog_12_method_24_code 2 (some .int), .instanceMethod y_M_commit, .selects "PatchedMachineModel" y_M_commit y_M_commit, .methodLink "PatchedMachineLaw" 41 y_X_waiting, .code y_X_waiting prog_1_method_8_code 1 (some .int), .instanceMethod y_X_waiting, .selects "PatchedMachine" y_X_waiting y_X_waiting, .methodLink "PatchedMachineLaw" 44 y_M_waiting, .code y_M_waiting prog_12_method_29_code 1 (some .int), .instanceMethod y_M_waiting, .selects "PatchedMachineModel" y_M_waiting y_M_waiting, .methodLink "PatchedMachineLaw" 45 y_X_restricted, .code y_X_restricted prog_1_method_9_code 1 (some .int), .instanceMethod y_X_restricted, .selects "PatchedMachine" y_X_restricted y_X_restricted, .methodLink "PatchedMachineLaw" 48 y_M_restricted, .code y_M_restricted prog_12_method_30_code 1 (some .int), .instanceMethod y_M_restricted, .selects "PatchedMachineModel" y_M_restricted y_M_restricted, .methodLink "PatchedMachineLaw" 49 y_X_applied, .code y_X_applied prog_1_method_10_code 1 (some .int), .instanceMethod y_X_applied, .selects "PatchedMachine" y_X_applied y_X_applied, .methodLink "PatchedMachineLaw" 52 y_M_applied, .code y_M_applied prog_12_method_31_code 1 (some .int), .instanceMethod y_M_applied, .selects "PatchedMachineModel" y_M_applied y_M_applied, .methodLink "PatchedMachineLaw" 53 y_X_moved, .code y_X_moved prog_1_method_11_code 1 (some .int), .instanceMethod y_X_moved, .selects "PatchedMachine" y_X_moved y_X_moved, .methodLink "PatchedMachineLaw" 56 y_M_moved, .code y_M_moved prog_12_method_32_code 1 (some .int), .instanceMethod y_M_moved, .selects "PatchedMachineModel" y_M_moved y_M_moved, .methodLink "PatchedMachineLaw" 57 y_X_start, .code y_X_start prog_1_method_12_code 3 (some .boolean), .instanceMethod y_X_start, .selects "PatchedMachine" y_X_start y_X_start, .methodLink "PatchedMachineLaw" 60 y_M_start, .code y_M_start prog_12_method_37_code 2 (some .boolean), .instanceMethod y_M_start, .selects "PatchedMachineModel" y_M_start y_M_start, .methodLink "PatchedMachineLaw" 61 y_X_run, .code y_X_run prog_1_method_13_code 3 (some .int), .instanceMethod y_X_run, .selects "PatchedMachine" y_X_run y_X_run, .methodLink "PatchedMachineLaw" 65 y_M_run, .code y_M_run prog_12_method_38_code 3 (some .int), .instanceMethod y_M_run, .selects "PatchedMachineModel" y_M_run y_M_run, .methodLink "PatchedMachineLaw" 66 y_X_status, .code y_X_status prog_1_method_14_code 1 (some .int), .instanceMethod y_X_status, .selects "PatchedMachine" y_X_status y_X_status, .methodLink "PatchedMachineLaw" 69 y_M_status, .code y_M_status prog_12_method_45_code 1 (some .int), .instanceMethod y_M_status, .selects "PatchedMachineModel" y_M_status y_M_status, .methodLink "PatchedMachineLaw" 70 y_X_result, .code y_X_result prog_1_method_15_code 1 (some .int), .instanceMethod y_X_result, .selects "PatchedMachine" y_X_result y_X_result, .methodLink "PatchedMachineLaw" 73 y_M_result, .code y_M_result prog_12_method_46_code 1 (some .int), .instanceMethod y_M_result, .selects "PatchedMachineModel" y_M_result y_M_result, .methodLink "PatchedMachineLaw" 74 y_X_depth, .code y_X_depth prog_1_method_16_code 1 (some .int), .instanceMethod y_X_depth, .selects "PatchedMachine" y_X_depth y_X_depth, .methodLink "PatchedMachineLaw" 77 y_M_depth, .code y_M_depth prog_12_method_47_code 1 (some .int), .instanceMethod y_M_depth, .selects "PatchedMachineModel" y_M_depth y_M_depth, .methodLink "PatchedMachineLaw" 78 y_X_frame, .code y_X_frame prog_1_method_17_code 3 (some .int), .instanceMethod y_X_frame, .selects "PatchedMachine" y_X_frame y_X_frame, .methodLink "PatchedMachineLaw" 81 y_M_frame, .code y_M_frame prog_12_method_48_code 3 (some .int), .instanceMethod y_M_frame, .selects "PatchedMachineModel" y_M_frame y_M_frame, .methodLink "PatchedMachineLaw" 82 y_X_objects, .code y_X_objects prog_1_method_18_code 1 (some .int), .instanceMethod y_X_objects, .selects "PatchedMachine" y_X_objects y_X_objects, .methodLink "PatchedMachineLaw" 85 y_M_objects, .code y_M_objects prog_12_method_34_code 3 (some .int), .instanceMethod y_M_objects, .selects "PatchedMachineModel" y_M_objects y_M_objects, .methodLink "PatchedMachineLaw" 86 y_X_output, .code y_X_output prog_1_method_19_code 2 (some .int), .instanceMethod y_X_output, .selects "PatchedMachine" y_X_output y_X_output, .methodLink "PatchedMachineLaw" 89 y_M_output, .code y_M_output prog_12_method_49_code 2 (some .int), .instanceMethod y_M_output, .selects "PatchedMachineModel" y_M_output y_M_output, .methodLink "PatchedMachineLaw" 90 y_X_outputs, .code y_X_outputs prog_1_method_20_code 1 (some .int), .instanceMethod y_X_outputs, .selects "PatchedMachine" y_X_outputs y_X_outputs, .methodLink "PatchedMachineLaw" 93 y_M_outputs, .code y_M_outputs prog_12_method_50_code 1 (some .int), .instanceMethod y_M_outputs, .selects "PatchedMachineModel" y_M_outputs y_M_outputs, .methodLink "PatchedMachineLaw" 94 y_X_shape, .code y_X_shape prog_1_method_21_code 4 (some .int), .instanceMethod y_X_shape, .selects "PatchedMachine" y_X_shape y_X_shape, .methodLink "PatchedMachineLaw" 98 y_M_shape, .code y_M_shape prog_12_method_51_code 3 (some .int), .instanceMethod y_M_shape, .selects "PatchedMachineModel" y_M_shape y_M_shape]
set_option maxRecDepth 100000 in
theorem u_W_law : ∀ w ∈ t_W_law, w ∈ am_tb := am_subI [118, 119, 105, 380, 382, 384, 386, 388, 390, 120, 122, 121, 827, 828, 115, 867, 869, 871, 873, 875, 877, 879, 881, 883, 885, 887, 889, 891, 893, 895, 897, 899, 901, 903, 905, 907, 909, 911, 913, 915, 917, 919, 921, 923, 925, 927, 929, 931, 933, 829, 831, 830, 393, 396, 394, 395, 936, 939, 937, 938, 408, 411, 409, 410, 943, 946, 944, 945, 444, 447, 445, 446, 955, 958, 956, 957, 459, 462, 460, 461, 959, 962, 960, 961, 482, 485, 483, 484, 966, 969, 967, 968, 510, 513, 511, 512, 978, 981, 979, 980, 669, 672, 670, 671, 1046, 1049, 1047, 1048, 673, 676, 674, 675, 1050, 1053, 1051, 1052, 677, 680, 678, 679, 1054, 1057, 1055, 1056, 681, 684, 682, 683, 1058, 1061, 1059, 1060, 685, 688, 686, 687, 1066, 1069, 1067, 1068, 702, 705, 703, 704, 1074, 1077, 1075, 1076, 791, 794, 792, 793, 1107, 1110, 1108, 1109, 795, 798, 796, 797, 1111, 1114, 1112, 1113, 799, 802, 800, 801, 1115, 1118, 1116, 1117, 803, 806, 804, 805, 1119, 1122, 1120, 1121, 807, 810, 808, 809, 1062, 1065, 1063, 1064, 811, 814, 812, 813, 1123, 1126, 1124, 1125, 819, 822, 820, 821, 1127, 1130, 1128, 1129, 823, 826, 824, 825, 1131, 1134, 1132, 1133] (by decide +kernel) (by decide +kernel)
set_option maxRecDepth 100000 in
theorem x_W_law (l : Launch) (L : Nat) (xs : Nat → Int32) : ∀ (p : Program) (e : Env) (R : Room) (s : State) (m : MethodId) (args : Array Value) (below : List Frame) (meth : Method) (c : Code) (A : Nat → Prop) (D : va_G) (cy : Nat → ClassId) (tys : List (ClassId × FieldType)) (sb n0 s0 : Nat),
    CallFix p m c code 4 s args am_tb y_W_law.cls → am_NW s → va_K D am_cl tys s → (∀ t ty, am_ty t = some ty → tys[t]? = some (cy t, ty)) → (∀ q, s.heap.size ≤ q → A q) → R.frames = 9 → R.locals = 328 →
    ∀ pc i, am_code (m_W_law L xs) pc = some i → am_V p l e R s m args below meth c code am_tb y_W_law.cls A D am_cl cy sb 4 n0 s0 (m_W_law L xs) pc i :=
  am_ctxL (cb := cb_W_law) t_W_law [(9, .invokespecial 9), (12, .invokespecial 12), (13, .invokevirtual 13), (17, .invokevirtual 17), (18, .invokevirtual 18), (22, .invokevirtual 22), (23, .invokevirtual 23), (26, .invokevirtual 26), (27, .invokevirtual 27), (30, .invokevirtual 30), (31, .invokevirtual 31), (35, .invokevirtual 35), (36, .invokevirtual 36), (40, .invokevirtual 40), (41, .invokevirtual 41), (44, .invokevirtual 44), (45, .invokevirtual 45), (48, .invokevirtual 48), (49, .invokevirtual 49), (52, .invokevirtual 52), (53, .invokevirtual 53), (56, .invokevirtual 56), (57, .invokevirtual 57), (60, .invokevirtual 60), (61, .invokevirtual 61), (65, .invokevirtual 65), (66, .invokevirtual 66), (69, .invokevirtual 69), (70, .invokevirtual 70), (73, .invokevirtual 73), (74, .invokevirtual 74), (77, .invokevirtual 77), (78, .invokevirtual 78), (81, .invokevirtual 81), (82, .invokevirtual 82), (85, .invokevirtual 85), (86, .invokevirtual 86), (89, .invokevirtual 89), (90, .invokevirtual 90), (93, .invokevirtual 93), (94, .invokevirtual 94), (98, .invokevirtual 98)] "PatchedMachine" [] u_W_law rfl (by decide +kernel)
    (List.forall_mem_cons.mpr ⟨am_KI (na := 0) u_W_law (s_X_init l) rfl (by decide +kernel) (by decide +kernel), (List.forall_mem_cons.mpr ⟨am_KI (na := 0) u_W_law (s_M_init l) rfl (by decide +kernel) (by decide +kernel), (List.forall_mem_cons.mpr ⟨am_KV (na := 1) u_W_law (s_X_layout l) rfl (by decide +kernel) (by decide +kernel), (List.forall_mem_cons.mpr ⟨am_KV (na := 1) u_W_law (s_M_layout l) rfl (by decide +kernel) (by decide +kernel), (List.forall_mem_cons.mpr ⟨am_KV (na := 4) u_W_law (s_X_field l) rfl (by decide +kernel) (by decide +kernel), (List.forall_mem_cons.mpr ⟨am_KV (na := 4) u_W_law (s_M_field l) rfl (by decide +kernel) (by decide +kernel), (List.forall_mem_cons.mpr ⟨am_KV (na := 4) u_W_law (s_X_head l) rfl (by decide +kernel) (by decide +kernel), (List.forall_mem_cons.mpr ⟨am_KV (na := 4) u_W_law (s_M_head l) rfl (by decide +kernel) (by decide +kernel), (List.forall_mem_cons.mpr ⟨am_KV (na := 4) u_W_law (s_X_code l) rfl (by decide +kernel) (by decide +kernel), (List.forall_mem_cons.mpr ⟨am_KV (na := 4) u_W_law (s_M_code l) rfl (by decide +kernel) (by decide +kernel), (List.forall_mem_cons.mpr ⟨am_KV (na := 0) u_W_law (s_X_drop l) rfl (by decide +kernel) (by decide +kernel), (List.forall_mem_cons.mpr ⟨am_KV (na := 0) u_W_law (s_M_drop l) rfl (by decide +kernel) (by decide +kernel), (List.forall_mem_cons.mpr ⟨am_KV (na := 0) u_W_law (s_X_commit l) rfl (by decide +kernel) (by decide +kernel), (List.forall_mem_cons.mpr ⟨am_KV (na := 0) u_W_law (s_M_commit l) rfl (by decide +kernel) (by decide +kernel), (List.forall_mem_cons.mpr ⟨am_KV (na := 0) u_W_law (s_X_waiting l) rfl (by decide +kernel) (by decide +kernel), (List.forall_mem_cons.mpr ⟨am_KV (na := 0) u_W_law (s_M_waiting l) rfl (by decide +kernel) (by decide +kernel), (List.forall_mem_cons.mpr ⟨am_KV (na := 0) u_W_law (s_X_restricted l) rfl (by decide +kernel) (by decide +kernel), (List.forall_mem_cons.mpr ⟨am_KV (na := 0) u_W_law (s_M_restricted l) rfl (by decide +kernel) (by decide +kernel), (List.forall_mem_cons.mpr ⟨am_KV (na := 0) u_W_law (s_X_applied l) rfl (by decide +kernel) (by decide +kernel), (List.forall_mem_cons.mpr ⟨am_KV (na := 0) u_W_law (s_M_applied l) rfl (by decide +kernel) (by decide +kernel), (List.forall_mem_cons.mpr ⟨am_KV (na := 0) u_W_law (s_X_moved l) rfl (by decide +kernel) (by decide +kernel), (List.forall_mem_cons.mpr ⟨am_KV (na := 0) u_W_law (s_M_moved l) rfl (by decide +kernel) (by decide +kernel), (List.forall_mem_cons.mpr ⟨am_KV (na := 1) u_W_law (s_X_start l) rfl (by decide +kernel) (by decide +kernel), (List.forall_mem_cons.mpr ⟨am_KV (na := 1) u_W_law (s_M_start l) rfl (by decide +kernel) (by decide +kernel), (List.forall_mem_cons.mpr ⟨am_KV (na := 1) u_W_law (s_X_run l) rfl (by decide +kernel) (by decide +kernel), (List.forall_mem_cons.mpr ⟨am_KV (na := 1) u_W_law (s_M_run l) rfl (by decide +kernel) (by decide +kernel), (List.forall_mem_cons.mpr ⟨am_KV (na := 0) u_W_law (s_X_status l) rfl (by decide +kernel) (by decide +kernel), (List.forall_mem_cons.mpr ⟨am_KV (na := 0) u_W_law (s_M_status l) rfl (by decide +kernel) (by decide +kernel), (List.forall_mem_cons.mpr ⟨am_KV (na := 0) u_W_law (s_X_result l) rfl (by decide +kernel) (by decide +kernel), (List.forall_mem_cons.mpr ⟨am_KV (na := 0) u_W_law (s_M_result l) rfl (by decide +kernel) (by decide +kernel), (List.forall_mem_cons.mpr ⟨am_KV (na := 0) u_W_law (s_X_depth l) rfl (by decide +kernel) (by decide +kernel), (List.forall_mem_cons.mpr ⟨am_KV (na := 0) u_W_law (s_M_depth l) rfl (by decide +kernel) (by decide +kernel), (List.forall_mem_cons.mpr ⟨am_KV (na := 1) u_W_law (s_X_frame l) rfl (by decide +kernel) (by decide +kernel), (List.forall_mem_cons.mpr ⟨am_KV (na := 1) u_W_law (s_M_frame l) rfl (by decide +kernel) (by decide +kernel), (List.forall_mem_cons.mpr ⟨am_KV (na := 0) u_W_law (s_X_objects l) rfl (by decide +kernel) (by decide +kernel), (List.forall_mem_cons.mpr ⟨am_KV (na := 0) u_W_law (s_M_objects l) rfl (by decide +kernel) (by decide +kernel), (List.forall_mem_cons.mpr ⟨am_KV (na := 1) u_W_law (s_X_output l) rfl (by decide +kernel) (by decide +kernel), (List.forall_mem_cons.mpr ⟨am_KV (na := 1) u_W_law (s_M_output l) rfl (by decide +kernel) (by decide +kernel), (List.forall_mem_cons.mpr ⟨am_KV (na := 0) u_W_law (s_X_outputs l) rfl (by decide +kernel) (by decide +kernel), (List.forall_mem_cons.mpr ⟨am_KV (na := 0) u_W_law (s_M_outputs l) rfl (by decide +kernel) (by decide +kernel), (List.forall_mem_cons.mpr ⟨am_KV (na := 2) u_W_law (s_X_shape l) rfl (by decide +kernel) (by decide +kernel), (List.forall_mem_cons.mpr ⟨am_KV (na := 2) u_W_law (s_M_shape l) rfl (by decide +kernel) (by decide +kernel), (fun _ h => absurd h List.not_mem_nil)⟩)⟩)⟩)⟩)⟩)⟩)⟩)⟩)⟩)⟩)⟩)⟩)⟩)⟩)⟩)⟩)⟩)⟩)⟩)⟩)⟩)⟩)⟩)⟩)⟩)⟩)⟩)⟩)⟩)⟩)⟩)⟩)⟩)⟩)⟩)⟩)⟩)⟩)⟩)⟩)⟩)⟩) (fun x t h => by cases h) (by decide +kernel)
end
section
/-! The claim out of a run of the small machine. -/
def am_law (L : Nat) (xs : Nat → Int32) : Prop := ∃ (N : Nat) (h' : am_H), am_run (m_W_law L xs) N N 0 [.retAddr 0] [] ([], fun _ _ => 0) = some (some (.int 1), h') ∧ h'.1.length ≤ 600000 ∧ am_slt h'.1 ≤ 7302250
theorem am_tb_in : ∀ w ∈ am_tb, w ∈ lw_tbl := fun _ hw => (List.mem_filter.mp hw).1
def am_inst : List Jvm.Cond := am_cl.map (fun q => .instantiable q.1 q.2.2)
def am_lays : List Jvm.Cond := am_cl.flatMap (fun q => u_ws q.1 q.2.1 q.2.2)
set_option maxRecDepth 100000 in
theorem am_inst_in : ∀ w ∈ am_inst, w ∈ lw_tbl := by decide +kernel
set_option maxRecDepth 100000 in
theorem am_lays_in : ∀ w ∈ am_lays, w ∈ lw_tbl := by decide +kernel
set_option maxRecDepth 100000 in
theorem am_arr_in : ∀ w ∈ ([.arrayClass .int, .arrayClass .boolean, .arrayOver (.object "PatchedMachine$Layout"), .arrayOver (.object "PatchedMachine$Routine"), .arrayOver (.object "PatchedMachine$Program"), .arrayOver (.object "PatchedMachine$Frame"), .arrayOver (.array .int)] : List Jvm.Cond), w ∈ lw_tbl := by decide +kernel
theorem am_known {s : State} {args : Array Value} (hts : ∀ w ∈ lw_tbl, w.before args s = true) : ∃ D : va_G, ∀ (c : Nat) (q : vw_C), am_cl[c]? = some q → u_Kn s q.1 q.2.1 q.2.2 (D.1 c) (D.2 c) := by
  have h : ∀ c : Nat, ∃ z : ClassId × (Nat → Nat), ∀ q : vw_C, am_cl[c]? = some q → u_Kn s q.1 q.2.1 q.2.2 z.1 z.2 := by
    intro c
    cases hq : am_cl[c]? with
    | none => exact ⟨(0, fun _ => 0), fun q h => by cases h⟩
    | some q =>
      have hm := List.mem_of_getElem? hq
      obtain ⟨cC, iS, hk⟩ := u_known (C := q.1) (T := q.2.1) (N := q.2.2) hts (fun w hw => am_lays_in w (List.mem_flatMap.mpr ⟨q, hm, hw⟩)) (hts _ (am_inst_in _ (List.mem_map.mpr ⟨q, hm, rfl⟩)))
      exact ⟨(cC, iS), fun q2 h2 => by cases h2; exact hk⟩
  exact ⟨(fun c => (Classical.choose (h c)).1, fun c => (Classical.choose (h c)).2), fun c q hq => Classical.choose_spec (h c) q hq⟩
theorem am_aP {s : State} {args : Array Value} {ty : FieldType} (h : (Cond.arrayClass ty).before args s = true) (hn : ∀ C, ty ≠ .object C) : ∃ c : ClassId, ArrOfT s c ty ∧ va_RA s c ty := by
  obtain ⟨c, k, comp, h1, h2, h3⟩ := Cond.arrayClass_spec h
  refine ⟨c, fun N z => ⟨(fun q hq => by cases hq), k, h2, comp, h3⟩, ?_⟩
  cases ty <;> first | exact h1 | exact absurd rfl (hn _)
theorem am_aO {s : State} {args : Array Value} {C : String} (h : (Cond.arrayOver (.object C)).before args s = true) : ∃ c : ClassId, ArrOfT s c (.object C) ∧ va_RA s c (.object C) := by
  obtain ⟨comp, c, k, h1, h2, h3, h4, h5⟩ := Cond.arrayOver_spec h
  exact ⟨c, fun N z => ⟨(fun q hq => by cases hq), k, h3, comp, h4⟩, k, comp, h3, h4, h1, h5⟩
theorem am_aG {s : State} {args : Array Value} (h : (Cond.arrayOver (.array .int)).before args s = true) : ∃ c : ClassId, ArrOfT s c (.array .int) ∧ va_RA s c (.array .int) := by
  obtain ⟨comp, c, k, h1, h2, h3, h4, h5⟩ := am_aoA_spec h
  exact ⟨c, fun N z => ⟨(fun q hq => by cases hq), k, h3, comp, h4⟩, h5⟩
theorem am_tys {s : State} {args : Array Value} (hts : ∀ w ∈ lw_tbl, w.before args s = true) : ∃ (cy : Nat → ClassId) (tys : List (ClassId × FieldType)), (∀ t ty, am_ty t = some ty → tys[t]? = some (cy t, ty)) ∧ ∀ (k : Nat) (q : ClassId × FieldType), tys[k]? = some q → ArrOfT s q.1 q.2 ∧ va_RA s q.1 q.2 := by
  have hm := fun w hw => hts w (am_arr_in w hw)
  obtain ⟨c0, h0⟩ := am_aP (hm (.arrayClass .int) (by simp)) (fun _ h => by cases h)
  obtain ⟨c1, h1⟩ := am_aP (hm (.arrayClass .boolean) (by simp)) (fun _ h => by cases h)
  obtain ⟨c2, h2⟩ := am_aO (hm (.arrayOver (.object "PatchedMachine$Layout")) (by simp))
  obtain ⟨c3, h3⟩ := am_aO (hm (.arrayOver (.object "PatchedMachine$Routine")) (by simp))
  obtain ⟨c4, h4⟩ := am_aO (hm (.arrayOver (.object "PatchedMachine$Program")) (by simp))
  obtain ⟨c5, h5⟩ := am_aO (hm (.arrayOver (.object "PatchedMachine$Frame")) (by simp))
  obtain ⟨c6, h6⟩ := am_aG (hm (.arrayOver (.array .int)) (by simp))
  refine ⟨fun t => [c0, c1, c2, c3, c4, c5, c6].getD t 0, [(c0, .int), (c1, .boolean), (c2, .object "PatchedMachine$Layout"), (c3, .object "PatchedMachine$Routine"), (c4, .object "PatchedMachine$Program"), (c5, .object "PatchedMachine$Frame"), (c6, .array .int)], fun t ty h => ?_, fun k q h => ?_⟩
  · unfold am_ty at h
    split at h <;> first | (cases h; rfl) | cases h
  · have hq := List.mem_of_getElem? h
    simp only [List.mem_cons, List.not_mem_nil, or_false] at hq
    rcases hq with rfl | rfl | rfl | rfl | rfl | rfl | rfl
    · exact h0
    · exact h1
    · exact h2
    · exact h3
    · exact h4
    · exact h5
    · exact h6
def R_law : String := "PatchedMachineLaw"
def lw_P (b : Addr) (xs : List Int32) (args : Array Value) (s : State) : Prop := args = #[.ref b] ∧ s.IntsAt b xs ∧ xs.length ≤ 2560 ∧ (Jvm.Cond.and given_1 narrow_1).before args s = true
def lw_Q (_ : Array Value) (s : State) (o : Outcome) (t : State) : Prop := o = .returned (some (.int 1)) ∧ Framed s o t [] 600000 7302250
def lw_Z (below : List Frame) (a : Array Value) (s : State) : State → Prop := fun t => ∃ o, t.status = .running ∧ Ended t below o ∧ lw_Q a s o t
/-- the law's own end, with 1 on the stack, nothing written that was there before, its room as the claim has it -/
theorem lw_ret {p : Program} {l : Launch} {e : Env} {s : State} {m : MethodId} {below : List Frame} {meth : Method} {c : Code} {b : Nat} (hx : p.tables.exec = Jvm.exec) (hb : c.code = code) (hr : meth.sig.returnType = ret) (hlocks : meth.locks = false) {pc : Nat} {H : Heap} {ls : Array Slot} (hdg : decode code pc = .ok (.ireturn, 1)) : W p l e room_1 s m #[Value.ref b] below meth c H [] 600000 7302250 (lw_Z below #[Value.ref b] s) (F0 m pc ls [.int 1]) := by
  intro T hT X
  obtain ⟨fs, hret, hrun, hended, hW, hframe⟩ := X.leave (v := some (.int 1)) (hlocks := hlocks) (fun h => by rw [hr] at h; cases h)
  have hmeth' : T.vm.method? m = some meth := X.method'
  refine ⟨T.setFrames fs, ?_, .returned (some (.int 1)), hrun, hended, rfl, ⟨_, rfl⟩, hW, hframe⟩
  jvm_step X.here [X.here.top, hx, hb, hdg, hmeth', hr, ret, narrow_b1]
  (try refine ⟨rfl, ?_⟩); (try refine ⟨rfl, ?_⟩)
  first | (intro acts; rw [hret _ acts rfl rfl rfl]) | rw [hret _ _ rfl rfl rfl]
  exact Steps.refl _
/-- what holds at the law's entry: the machine, the code, the tables' words (any of lw_tbl by 'hts w (by decide +kernel)'), the script of L ints xs at the cell b, what the Statement gives of the start (any of its parts by flat_of_before) -/
def lw_At (p : Program) (s : State) (m : MethodId) (meth : Method) (c : Code) (b L : Nat) (xs : Nat → Int32) : Prop :=
  p.tables.exec = Jvm.exec ∧ c.code = code ∧ meth.sig.returnType = ret ∧ c.maxLocals = 4 ∧ s.vm.findClass R_law = some m.cls ∧ (∀ w ∈ lw_tbl, w.before #[Value.ref b] s = true) ∧ va_X b L xs s s.heap ∧ b < s.heap.size ∧ meth.locks = false ∧ (Jvm.Cond.and given_1 narrow_1).before #[Value.ref b] s = true
theorem am_whole {p : Program} {e : Env} {s : State} {m : MethodId} {below : List Frame} {meth : Method} {c : Code} (l : Launch) {b L : Nat} {xs : Nat → Int32} (hp : am_law L xs) (C0 : lw_At p s m meth c b L xs) : W p l e room_1 s m #[Value.ref b] below meth c s.heap [] 0 0 (lw_Z below #[Value.ref b] s) (entryFrame m ([Value.ref b] : List Value).toArray 4) := by
  obtain ⟨hx, hb, hr, hml, hown, hts, hX, hbl, hlocks, hgv⟩ := C0
  obtain ⟨N, h', hrun, hc1, hc2⟩ := hp
  obtain ⟨D, hD⟩ := am_known hts
  obtain ⟨cy, tys, hty, htys⟩ := am_tys hts
  have hK : va_K D am_cl tys s := ⟨hD, htys⟩
  have ht2 : ∀ w ∈ am_tb, w.before #[Value.ref b] s = true := fun w hw => hts w (am_tb_in w hw)
  have hA : ∀ q : Nat, s.heap.size ≤ q → (fun q => s.heap.size ≤ q) q := fun q h => h
  have hI : am_I (fun q => s.heap.size ≤ q) D am_cl cy s.heap (fun _ => 0) ([], fun _ _ => 0) s.heap [] := ⟨fun k q h => (by cases h), ⟨fun i j p q h => (by cases h), fun k q h => (by cases h)⟩, va_S.rf, fun i d h => (by cases h), fun _ _ _ => rfl⟩
  rw [lg_entry_eq]
  refine W.cs (cells' := ([] : List am_D).length - 0) (slots' := am_slt [] - 0) rfl rfl ?_
  refine am_sim (M := m_W_law L xs) (N := N) (rE := some (.int 1)) (hE := h') (al0 := fun _ => 0) (n0 := 0) (s0 := 0) (sb := b) (R := room_1) (nL := 4) (Ts := am_tb) (own := R_law) hx hb ht2 hown hK hty am_htc hA (fun q hq => (by cases hq; exact ⟨hX, hbl, fun h => absurd h (Nat.not_le.mpr hbl)⟩))
    (x_W_law l L xs p e room_1 s m _ below meth c _ D cy tys b 0 0 ⟨hx, hb, hml, hown, ht2⟩ (am_NW_of hts) hK hty hA rfl rfl) (g_W_law L xs) (by show h'.1.length ≤ 0 + 600000; omega) (by show am_slt h'.1 ≤ 0 + 7302250; omega) ?_ N 0 [.retAddr 0] [] ([], fun _ _ => 0) (fun _ => 0) s.heap [] _ hrun hI (am_entry (al := fun _ => 0) (sb := b) (as := [.retAddr 0]) (fun v hv => by rw [List.mem_singleton.mp hv]; trivial) (by decide)) (fun v hv => by cases hv) (Nat.zero_le _) (Nat.zero_le _) (fun _ _ => rfl)
  intro pc i st al' H locs lk hc hd hR hI' hs hab
  cases i with
  | ireturn =>
    obtain ⟨x, rfl, -, hx1⟩ := am_R_i hR
    cases hx1
    refine va_forget hI'.2.2.1.2.2 (W.widen (k := 600000) (n := 7302250) (by omega) (by omega) ?_)
    exact lw_ret hx hb hr hlocks hd
  | areturn => obtain ⟨x, -, h1, -⟩ := am_R_a hR; cases h1
  | return_ => obtain ⟨-, h1, -⟩ := am_R_v hR; cases h1
  | _ => cases hR
end
