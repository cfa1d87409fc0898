section
/-- a private method of a class that the tables say can be made, by its rows of tables_1 -/
def lw_okq (q : MethodName × Nat) : Prop := (q.1.cls ≠ "java/lang/invoke/MethodHandle" ∧ q.1.cls ≠ "java/lang/invoke/VarHandle") ∧ Cond.instantiable q.1.cls q.2 ∈ tables_1 ∧ Cond.privateMethod q.1 ∈ tables_1 ∧ Cond.instanceMethod q.1 ∈ tables_1
theorem lw_p0 : lw_okq (⟨"PatchedMachine$Program", "clearClass", "(I)V"⟩, 5) := ⟨⟨by decide +kernel, by decide +kernel⟩, List.mem_of_getElem? (i := 23) (by decide +kernel), List.mem_of_getElem? (i := 297) (by decide +kernel), List.mem_of_getElem? (i := 298) (by decide +kernel)⟩
theorem lw_p1 : lw_okq (⟨"PatchedMachine$Layout", "clear", "()V"⟩, 4) := ⟨⟨by decide +kernel, by decide +kernel⟩, List.mem_of_getElem? (i := 32) (by decide +kernel), List.mem_of_getElem? (i := 301) (by decide +kernel), List.mem_of_getElem? (i := 302) (by decide +kernel)⟩
theorem lw_p2 : lw_okq (⟨"PatchedMachine$Program", "touchesClass", "(I)Z"⟩, 5) := ⟨⟨by decide +kernel, by decide +kernel⟩, List.mem_of_getElem? (i := 23) (by decide +kernel), List.mem_of_getElem? (i := 309) (by decide +kernel), List.mem_of_getElem? (i := 310) (by decide +kernel)⟩
theorem lw_p3 : lw_okq (⟨"PatchedMachine$Layout", "isFull", "()Z"⟩, 4) := ⟨⟨by decide +kernel, by decide +kernel⟩, List.mem_of_getElem? (i := 32) (by decide +kernel), List.mem_of_getElem? (i := 319) (by decide +kernel), List.mem_of_getElem? (i := 320) (by decide +kernel)⟩
theorem lw_p4 : lw_okq (⟨"PatchedMachine$Layout", "find", "(I)I"⟩, 4) := ⟨⟨by decide +kernel, by decide +kernel⟩, List.mem_of_getElem? (i := 32) (by decide +kernel), List.mem_of_getElem? (i := 323) (by decide +kernel), List.mem_of_getElem? (i := 324) (by decide +kernel)⟩
theorem lw_p5 : lw_okq (⟨"PatchedMachine$PatchLine", "newest", "()LPatchedMachine$Program;"⟩, 3) := ⟨⟨by decide +kernel, by decide +kernel⟩, List.mem_of_getElem? (i := 124) (by decide +kernel), List.mem_of_getElem? (i := 327) (by decide +kernel), List.mem_of_getElem? (i := 328) (by decide +kernel)⟩
theorem lw_p6 : lw_okq (⟨"PatchedMachine$Layout", "typeNamed", "(I)I"⟩, 4) := ⟨⟨by decide +kernel, by decide +kernel⟩, List.mem_of_getElem? (i := 32) (by decide +kernel), List.mem_of_getElem? (i := 331) (by decide +kernel), List.mem_of_getElem? (i := 332) (by decide +kernel)⟩
theorem lw_p7 : lw_okq (⟨"PatchedMachine$Layout", "add", "(III)V"⟩, 4) := ⟨⟨by decide +kernel, by decide +kernel⟩, List.mem_of_getElem? (i := 32) (by decide +kernel), List.mem_of_getElem? (i := 336) (by decide +kernel), List.mem_of_getElem? (i := 337) (by decide +kernel)⟩
theorem lw_p8 : lw_okq (⟨"PatchedMachine$Program", "beginMethod", "(IIII)V"⟩, 5) := ⟨⟨by decide +kernel, by decide +kernel⟩, List.mem_of_getElem? (i := 23) (by decide +kernel), List.mem_of_getElem? (i := 348) (by decide +kernel), List.mem_of_getElem? (i := 349) (by decide +kernel)⟩
theorem lw_p9 : lw_okq (⟨"PatchedMachine$Routine", "begin", "(III)V"⟩, 7) := ⟨⟨by decide +kernel, by decide +kernel⟩, List.mem_of_getElem? (i := 57) (by decide +kernel), List.mem_of_getElem? (i := 352) (by decide +kernel), List.mem_of_getElem? (i := 353) (by decide +kernel)⟩
theorem lw_p10 : lw_okq (⟨"PatchedMachine$Program", "touchesMethod", "(I)Z"⟩, 5) := ⟨⟨by decide +kernel, by decide +kernel⟩, List.mem_of_getElem? (i := 23) (by decide +kernel), List.mem_of_getElem? (i := 360) (by decide +kernel), List.mem_of_getElem? (i := 361) (by decide +kernel)⟩
theorem lw_p11 : lw_okq (⟨"PatchedMachine$Routine", "isFull", "()Z"⟩, 7) := ⟨⟨by decide +kernel, by decide +kernel⟩, List.mem_of_getElem? (i := 57) (by decide +kernel), List.mem_of_getElem? (i := 364) (by decide +kernel), List.mem_of_getElem? (i := 365) (by decide +kernel)⟩
theorem lw_p12 : lw_okq (⟨"PatchedMachine$Routine", "add", "(III)V"⟩, 7) := ⟨⟨by decide +kernel, by decide +kernel⟩, List.mem_of_getElem? (i := 57) (by decide +kernel), List.mem_of_getElem? (i := 374) (by decide +kernel), List.mem_of_getElem? (i := 375) (by decide +kernel)⟩
theorem lw_p13 : lw_okq (⟨"PatchedMachine$Program", "touchesAnything", "()Z"⟩, 5) := ⟨⟨by decide +kernel, by decide +kernel⟩, List.mem_of_getElem? (i := 23) (by decide +kernel), List.mem_of_getElem? (i := 383) (by decide +kernel), List.mem_of_getElem? (i := 384) (by decide +kernel)⟩
theorem lw_p14 : lw_okq (⟨"PatchedMachine$Program", "beginAs", "(LPatchedMachine$Program;)V"⟩, 5) := ⟨⟨by decide +kernel, by decide +kernel⟩, List.mem_of_getElem? (i := 23) (by decide +kernel), List.mem_of_getElem? (i := 387) (by decide +kernel), List.mem_of_getElem? (i := 388) (by decide +kernel)⟩
theorem lw_p15 : lw_okq (⟨"PatchedMachine$Program", "copy", "(LPatchedMachine$Program;)V"⟩, 5) := ⟨⟨by decide +kernel, by decide +kernel⟩, List.mem_of_getElem? (i := 23) (by decide +kernel), List.mem_of_getElem? (i := 391) (by decide +kernel), List.mem_of_getElem? (i := 392) (by decide +kernel)⟩
def lw_privs_1 : List (MethodName × Nat) := [(⟨"PatchedMachine$Program", "clearClass", "(I)V"⟩, 5), (⟨"PatchedMachine$Layout", "clear", "()V"⟩, 4), (⟨"PatchedMachine$Program", "touchesClass", "(I)Z"⟩, 5), (⟨"PatchedMachine$Layout", "isFull", "()Z"⟩, 4), (⟨"PatchedMachine$Layout", "find", "(I)I"⟩, 4), (⟨"PatchedMachine$PatchLine", "newest", "()LPatchedMachine$Program;"⟩, 3), (⟨"PatchedMachine$Layout", "typeNamed", "(I)I"⟩, 4), (⟨"PatchedMachine$Layout", "add", "(III)V"⟩, 4), (⟨"PatchedMachine$Program", "beginMethod", "(IIII)V"⟩, 5), (⟨"PatchedMachine$Routine", "begin", "(III)V"⟩, 7), (⟨"PatchedMachine$Program", "touchesMethod", "(I)Z"⟩, 5), (⟨"PatchedMachine$Routine", "isFull", "()Z"⟩, 7), (⟨"PatchedMachine$Routine", "add", "(III)V"⟩, 7), (⟨"PatchedMachine$Program", "touchesAnything", "()Z"⟩, 5), (⟨"PatchedMachine$Program", "beginAs", "(LPatchedMachine$Program;)V"⟩, 5), (⟨"PatchedMachine$Program", "copy", "(LPatchedMachine$Program;)V"⟩, 5)]
theorem lw_r1 : ∀ q ∈ lw_privs_1, lw_okq q := List.forall_mem_cons.mpr ⟨lw_p0, List.forall_mem_cons.mpr ⟨lw_p1, List.forall_mem_cons.mpr ⟨lw_p2, List.forall_mem_cons.mpr ⟨lw_p3, List.forall_mem_cons.mpr ⟨lw_p4, List.forall_mem_cons.mpr ⟨lw_p5, List.forall_mem_cons.mpr ⟨lw_p6, List.forall_mem_cons.mpr ⟨lw_p7, List.forall_mem_cons.mpr ⟨lw_p8, List.forall_mem_cons.mpr ⟨lw_p9, List.forall_mem_cons.mpr ⟨lw_p10, List.forall_mem_cons.mpr ⟨lw_p11, List.forall_mem_cons.mpr ⟨lw_p12, List.forall_mem_cons.mpr ⟨lw_p13, List.forall_mem_cons.mpr ⟨lw_p14, List.forall_mem_cons.mpr ⟨lw_p15, fun _ h => absurd h List.not_mem_nil⟩⟩⟩⟩⟩⟩⟩⟩⟩⟩⟩⟩⟩⟩⟩⟩
theorem lw_p16 : lw_okq (⟨"PatchedMachine$Layout", "copy", "(LPatchedMachine$Layout;)V"⟩, 4) := ⟨⟨by decide +kernel, by decide +kernel⟩, List.mem_of_getElem? (i := 32) (by decide +kernel), List.mem_of_getElem? (i := 395) (by decide +kernel), List.mem_of_getElem? (i := 396) (by decide +kernel)⟩
theorem lw_p17 : lw_okq (⟨"PatchedMachine$Routine", "copy", "(LPatchedMachine$Routine;)V"⟩, 7) := ⟨⟨by decide +kernel, by decide +kernel⟩, List.mem_of_getElem? (i := 57) (by decide +kernel), List.mem_of_getElem? (i := 402) (by decide +kernel), List.mem_of_getElem? (i := 403) (by decide +kernel)⟩
theorem lw_p18 : lw_okq (⟨"PatchedMachine$PatchLine", "isFull", "()Z"⟩, 3) := ⟨⟨by decide +kernel, by decide +kernel⟩, List.mem_of_getElem? (i := 124) (by decide +kernel), List.mem_of_getElem? (i := 411) (by decide +kernel), List.mem_of_getElem? (i := 412) (by decide +kernel)⟩
theorem lw_p19 : lw_okq (⟨"PatchedMachine$Checker", "firstBadPlace", "(LPatchedMachine$Program;)I"⟩, 3) := ⟨⟨by decide +kernel, by decide +kernel⟩, List.mem_of_getElem? (i := 144) (by decide +kernel), List.mem_of_getElem? (i := 415) (by decide +kernel), List.mem_of_getElem? (i := 416) (by decide +kernel)⟩
theorem lw_p20 : lw_okq (⟨"PatchedMachine$Checker", "firstBadPlaceOf", "(LPatchedMachine$Routine;LPatchedMachine$Program;)I"⟩, 3) := ⟨⟨by decide +kernel, by decide +kernel⟩, List.mem_of_getElem? (i := 144) (by decide +kernel), List.mem_of_getElem? (i := 419) (by decide +kernel), List.mem_of_getElem? (i := 420) (by decide +kernel)⟩
theorem lw_p21 : lw_okq (⟨"PatchedMachine$Routine", "jumpsTo", "(I)Z"⟩, 7) := ⟨⟨by decide +kernel, by decide +kernel⟩, List.mem_of_getElem? (i := 57) (by decide +kernel), List.mem_of_getElem? (i := 423) (by decide +kernel), List.mem_of_getElem? (i := 424) (by decide +kernel)⟩
theorem lw_p22 : lw_okq (⟨"PatchedMachine$Checker", "needEmpty", "()V"⟩, 3) := ⟨⟨by decide +kernel, by decide +kernel⟩, List.mem_of_getElem? (i := 144) (by decide +kernel), List.mem_of_getElem? (i := 427) (by decide +kernel), List.mem_of_getElem? (i := 428) (by decide +kernel)⟩
theorem lw_p23 : lw_okq (⟨"PatchedMachine$Checker", "check", "(LPatchedMachine$Routine;ILPatchedMachine$Program;)V"⟩, 3) := ⟨⟨by decide +kernel, by decide +kernel⟩, List.mem_of_getElem? (i := 144) (by decide +kernel), List.mem_of_getElem? (i := 431) (by decide +kernel), List.mem_of_getElem? (i := 432) (by decide +kernel)⟩
theorem lw_p24 : lw_okq (⟨"PatchedMachine$Checker", "put", "(I)V"⟩, 3) := ⟨⟨by decide +kernel, by decide +kernel⟩, List.mem_of_getElem? (i := 144) (by decide +kernel), List.mem_of_getElem? (i := 435) (by decide +kernel), List.mem_of_getElem? (i := 436) (by decide +kernel)⟩
theorem lw_p25 : lw_okq (⟨"PatchedMachine$Checker", "take", "(I)V"⟩, 3) := ⟨⟨by decide +kernel, by decide +kernel⟩, List.mem_of_getElem? (i := 144) (by decide +kernel), List.mem_of_getElem? (i := 439) (by decide +kernel), List.mem_of_getElem? (i := 440) (by decide +kernel)⟩
theorem lw_p26 : lw_okq (⟨"PatchedMachine$Checker", "checkJump", "(LPatchedMachine$Routine;I)V"⟩, 3) := ⟨⟨by decide +kernel, by decide +kernel⟩, List.mem_of_getElem? (i := 144) (by decide +kernel), List.mem_of_getElem? (i := 443) (by decide +kernel), List.mem_of_getElem? (i := 444) (by decide +kernel)⟩
theorem lw_p27 : lw_okq (⟨"PatchedMachine$Routine", "hasPlace", "(I)Z"⟩, 7) := ⟨⟨by decide +kernel, by decide +kernel⟩, List.mem_of_getElem? (i := 57) (by decide +kernel), List.mem_of_getElem? (i := 447) (by decide +kernel), List.mem_of_getElem? (i := 448) (by decide +kernel)⟩
theorem lw_p28 : lw_okq (⟨"PatchedMachine$Checker", "checkGet", "(II)V"⟩, 3) := ⟨⟨by decide +kernel, by decide +kernel⟩, List.mem_of_getElem? (i := 144) (by decide +kernel), List.mem_of_getElem? (i := 452) (by decide +kernel), List.mem_of_getElem? (i := 453) (by decide +kernel)⟩
theorem lw_p29 : lw_okq (⟨"PatchedMachine$Checker", "needField", "(I)V"⟩, 3) := ⟨⟨by decide +kernel, by decide +kernel⟩, List.mem_of_getElem? (i := 144) (by decide +kernel), List.mem_of_getElem? (i := 456) (by decide +kernel), List.mem_of_getElem? (i := 457) (by decide +kernel)⟩
theorem lw_p30 : lw_okq (⟨"PatchedMachine$Checker", "checkPut", "(II)V"⟩, 3) := ⟨⟨by decide +kernel, by decide +kernel⟩, List.mem_of_getElem? (i := 144) (by decide +kernel), List.mem_of_getElem? (i := 460) (by decide +kernel), List.mem_of_getElem? (i := 461) (by decide +kernel)⟩
theorem lw_p31 : lw_okq (⟨"PatchedMachine$Checker", "checkCall", "(LPatchedMachine$Routine;)V"⟩, 3) := ⟨⟨by decide +kernel, by decide +kernel⟩, List.mem_of_getElem? (i := 144) (by decide +kernel), List.mem_of_getElem? (i := 464) (by decide +kernel), List.mem_of_getElem? (i := 465) (by decide +kernel)⟩
def lw_privs_2 : List (MethodName × Nat) := [(⟨"PatchedMachine$Layout", "copy", "(LPatchedMachine$Layout;)V"⟩, 4), (⟨"PatchedMachine$Routine", "copy", "(LPatchedMachine$Routine;)V"⟩, 7), (⟨"PatchedMachine$PatchLine", "isFull", "()Z"⟩, 3), (⟨"PatchedMachine$Checker", "firstBadPlace", "(LPatchedMachine$Program;)I"⟩, 3), (⟨"PatchedMachine$Checker", "firstBadPlaceOf", "(LPatchedMachine$Routine;LPatchedMachine$Program;)I"⟩, 3), (⟨"PatchedMachine$Routine", "jumpsTo", "(I)Z"⟩, 7), (⟨"PatchedMachine$Checker", "needEmpty", "()V"⟩, 3), (⟨"PatchedMachine$Checker", "check", "(LPatchedMachine$Routine;ILPatchedMachine$Program;)V"⟩, 3), (⟨"PatchedMachine$Checker", "put", "(I)V"⟩, 3), (⟨"PatchedMachine$Checker", "take", "(I)V"⟩, 3), (⟨"PatchedMachine$Checker", "checkJump", "(LPatchedMachine$Routine;I)V"⟩, 3), (⟨"PatchedMachine$Routine", "hasPlace", "(I)Z"⟩, 7), (⟨"PatchedMachine$Checker", "checkGet", "(II)V"⟩, 3), (⟨"PatchedMachine$Checker", "needField", "(I)V"⟩, 3), (⟨"PatchedMachine$Checker", "checkPut", "(II)V"⟩, 3), (⟨"PatchedMachine$Checker", "checkCall", "(LPatchedMachine$Routine;)V"⟩, 3)]
theorem lw_r2 : ∀ q ∈ lw_privs_2, lw_okq q := List.forall_mem_cons.mpr ⟨lw_p16, List.forall_mem_cons.mpr ⟨lw_p17, List.forall_mem_cons.mpr ⟨lw_p18, List.forall_mem_cons.mpr ⟨lw_p19, List.forall_mem_cons.mpr ⟨lw_p20, List.forall_mem_cons.mpr ⟨lw_p21, List.forall_mem_cons.mpr ⟨lw_p22, List.forall_mem_cons.mpr ⟨lw_p23, List.forall_mem_cons.mpr ⟨lw_p24, List.forall_mem_cons.mpr ⟨lw_p25, List.forall_mem_cons.mpr ⟨lw_p26, List.forall_mem_cons.mpr ⟨lw_p27, List.forall_mem_cons.mpr ⟨lw_p28, List.forall_mem_cons.mpr ⟨lw_p29, List.forall_mem_cons.mpr ⟨lw_p30, List.forall_mem_cons.mpr ⟨lw_p31, fun _ h => absurd h List.not_mem_nil⟩⟩⟩⟩⟩⟩⟩⟩⟩⟩⟩⟩⟩⟩⟩⟩
theorem lw_p32 : lw_okq (⟨"PatchedMachine$Routine", "isDefined", "()Z"⟩, 7) := ⟨⟨by decide +kernel, by decide +kernel⟩, List.mem_of_getElem? (i := 57) (by decide +kernel), List.mem_of_getElem? (i := 468) (by decide +kernel), List.mem_of_getElem? (i := 469) (by decide +kernel)⟩
theorem lw_p33 : lw_okq (⟨"PatchedMachine$Checker", "takeTwoPutInt", "(I)V"⟩, 3) := ⟨⟨by decide +kernel, by decide +kernel⟩, List.mem_of_getElem? (i := 144) (by decide +kernel), List.mem_of_getElem? (i := 472) (by decide +kernel), List.mem_of_getElem? (i := 473) (by decide +kernel)⟩
theorem lw_p34 : lw_okq (⟨"PatchedMachine$Checker", "needNoWayOut", "(I)V"⟩, 3) := ⟨⟨by decide +kernel, by decide +kernel⟩, List.mem_of_getElem? (i := 144) (by decide +kernel), List.mem_of_getElem? (i := 476) (by decide +kernel), List.mem_of_getElem? (i := 477) (by decide +kernel)⟩
theorem lw_p35 : lw_okq (⟨"PatchedMachine$Program", "restrict", "(LPatchedMachine$Program;)V"⟩, 5) := ⟨⟨by decide +kernel, by decide +kernel⟩, List.mem_of_getElem? (i := 23) (by decide +kernel), List.mem_of_getElem? (i := 480) (by decide +kernel), List.mem_of_getElem? (i := 481) (by decide +kernel)⟩
theorem lw_p36 : lw_okq (⟨"PatchedMachine$Program", "methodsCalledOtherwise", "(LPatchedMachine$Program;)I"⟩, 5) := ⟨⟨by decide +kernel, by decide +kernel⟩, List.mem_of_getElem? (i := 23) (by decide +kernel), List.mem_of_getElem? (i := 484) (by decide +kernel), List.mem_of_getElem? (i := 485) (by decide +kernel)⟩
theorem lw_p37 : lw_okq (⟨"PatchedMachine$Routine", "isCalledLike", "(LPatchedMachine$Routine;)Z"⟩, 7) := ⟨⟨by decide +kernel, by decide +kernel⟩, List.mem_of_getElem? (i := 57) (by decide +kernel), List.mem_of_getElem? (i := 488) (by decide +kernel), List.mem_of_getElem? (i := 489) (by decide +kernel)⟩
theorem lw_p38 : lw_okq (⟨"PatchedMachine$Routine", "usesOneOfClasses", "(I)Z"⟩, 7) := ⟨⟨by decide +kernel, by decide +kernel⟩, List.mem_of_getElem? (i := 57) (by decide +kernel), List.mem_of_getElem? (i := 492) (by decide +kernel), List.mem_of_getElem? (i := 493) (by decide +kernel)⟩
theorem lw_p39 : lw_okq (⟨"PatchedMachine$Routine", "callsOneOfMethods", "(I)Z"⟩, 7) := ⟨⟨by decide +kernel, by decide +kernel⟩, List.mem_of_getElem? (i := 57) (by decide +kernel), List.mem_of_getElem? (i := 496) (by decide +kernel), List.mem_of_getElem? (i := 497) (by decide +kernel)⟩
theorem lw_p40 : lw_okq (⟨"PatchedMachine$PatchLine", "add", "(LPatchedMachine$Program;)V"⟩, 3) := ⟨⟨by decide +kernel, by decide +kernel⟩, List.mem_of_getElem? (i := 124) (by decide +kernel), List.mem_of_getElem? (i := 500) (by decide +kernel), List.mem_of_getElem? (i := 501) (by decide +kernel)⟩
theorem lw_p41 : lw_okq (⟨"PatchedMachine", "applyWhatCan", "()V"⟩, 6) := ⟨⟨by decide +kernel, by decide +kernel⟩, List.mem_of_getElem? (i := 15) (by decide +kernel), List.mem_of_getElem? (i := 507) (by decide +kernel), List.mem_of_getElem? (i := 508) (by decide +kernel)⟩
theorem lw_p42 : lw_okq (⟨"PatchedMachine$PatchLine", "firstWaiting", "()LPatchedMachine$Program;"⟩, 3) := ⟨⟨by decide +kernel, by decide +kernel⟩, List.mem_of_getElem? (i := 124) (by decide +kernel), List.mem_of_getElem? (i := 511) (by decide +kernel), List.mem_of_getElem? (i := 512) (by decide +kernel)⟩
theorem lw_p43 : lw_okq (⟨"PatchedMachine$Runner", "hasFrameOfOneOf", "(I)Z"⟩, 6) := ⟨⟨by decide +kernel, by decide +kernel⟩, List.mem_of_getElem? (i := 160) (by decide +kernel), List.mem_of_getElem? (i := 515) (by decide +kernel), List.mem_of_getElem? (i := 516) (by decide +kernel)⟩
theorem lw_p44 : lw_okq (⟨"PatchedMachine$PatchLine", "present", "()LPatchedMachine$Program;"⟩, 3) := ⟨⟨by decide +kernel, by decide +kernel⟩, List.mem_of_getElem? (i := 124) (by decide +kernel), List.mem_of_getElem? (i := 519) (by decide +kernel), List.mem_of_getElem? (i := 520) (by decide +kernel)⟩
theorem lw_p45 : lw_okq (⟨"PatchedMachine$Runner", "collect", "(LPatchedMachine$Program;)V"⟩, 6) := ⟨⟨by decide +kernel, by decide +kernel⟩, List.mem_of_getElem? (i := 160) (by decide +kernel), List.mem_of_getElem? (i := 523) (by decide +kernel), List.mem_of_getElem? (i := 524) (by decide +kernel)⟩
theorem lw_p46 : lw_okq (⟨"PatchedMachine$Heap", "beginCollection", "()V"⟩, 7) := ⟨⟨by decide +kernel, by decide +kernel⟩, List.mem_of_getElem? (i := 168) (by decide +kernel), List.mem_of_getElem? (i := 527) (by decide +kernel), List.mem_of_getElem? (i := 528) (by decide +kernel)⟩
theorem lw_p47 : lw_okq (⟨"PatchedMachine$Runner", "reachFrom", "(LPatchedMachine$Frame;LPatchedMachine$Routine;)V"⟩, 6) := ⟨⟨by decide +kernel, by decide +kernel⟩, List.mem_of_getElem? (i := 160) (by decide +kernel), List.mem_of_getElem? (i := 531) (by decide +kernel), List.mem_of_getElem? (i := 532) (by decide +kernel)⟩
def lw_privs_3 : List (MethodName × Nat) := [(⟨"PatchedMachine$Routine", "isDefined", "()Z"⟩, 7), (⟨"PatchedMachine$Checker", "takeTwoPutInt", "(I)V"⟩, 3), (⟨"PatchedMachine$Checker", "needNoWayOut", "(I)V"⟩, 3), (⟨"PatchedMachine$Program", "restrict", "(LPatchedMachine$Program;)V"⟩, 5), (⟨"PatchedMachine$Program", "methodsCalledOtherwise", "(LPatchedMachine$Program;)I"⟩, 5), (⟨"PatchedMachine$Routine", "isCalledLike", "(LPatchedMachine$Routine;)Z"⟩, 7), (⟨"PatchedMachine$Routine", "usesOneOfClasses", "(I)Z"⟩, 7), (⟨"PatchedMachine$Routine", "callsOneOfMethods", "(I)Z"⟩, 7), (⟨"PatchedMachine$PatchLine", "add", "(LPatchedMachine$Program;)V"⟩, 3), (⟨"PatchedMachine", "applyWhatCan", "()V"⟩, 6), (⟨"PatchedMachine$PatchLine", "firstWaiting", "()LPatchedMachine$Program;"⟩, 3), (⟨"PatchedMachine$Runner", "hasFrameOfOneOf", "(I)Z"⟩, 6), (⟨"PatchedMachine$PatchLine", "present", "()LPatchedMachine$Program;"⟩, 3), (⟨"PatchedMachine$Runner", "collect", "(LPatchedMachine$Program;)V"⟩, 6), (⟨"PatchedMachine$Heap", "beginCollection", "()V"⟩, 7), (⟨"PatchedMachine$Runner", "reachFrom", "(LPatchedMachine$Frame;LPatchedMachine$Routine;)V"⟩, 6)]
theorem lw_r3 : ∀ q ∈ lw_privs_3, lw_okq q := List.forall_mem_cons.mpr ⟨lw_p32, List.forall_mem_cons.mpr ⟨lw_p33, List.forall_mem_cons.mpr ⟨lw_p34, List.forall_mem_cons.mpr ⟨lw_p35, List.forall_mem_cons.mpr ⟨lw_p36, List.forall_mem_cons.mpr ⟨lw_p37, List.forall_mem_cons.mpr ⟨lw_p38, List.forall_mem_cons.mpr ⟨lw_p39, List.forall_mem_cons.mpr ⟨lw_p40, List.forall_mem_cons.mpr ⟨lw_p41, List.forall_mem_cons.mpr ⟨lw_p42, List.forall_mem_cons.mpr ⟨lw_p43, List.forall_mem_cons.mpr ⟨lw_p44, List.forall_mem_cons.mpr ⟨lw_p45, List.forall_mem_cons.mpr ⟨lw_p46, List.forall_mem_cons.mpr ⟨lw_p47, fun _ h => absurd h List.not_mem_nil⟩⟩⟩⟩⟩⟩⟩⟩⟩⟩⟩⟩⟩⟩⟩⟩
theorem lw_p48 : lw_okq (⟨"PatchedMachine$Heap", "reach", "(II)V"⟩, 7) := ⟨⟨by decide +kernel, by decide +kernel⟩, List.mem_of_getElem? (i := 168) (by decide +kernel), List.mem_of_getElem? (i := 535) (by decide +kernel), List.mem_of_getElem? (i := 536) (by decide +kernel)⟩
theorem lw_p49 : lw_okq (⟨"PatchedMachine$Heap", "reachOverFields", "(LPatchedMachine$Program;)V"⟩, 7) := ⟨⟨by decide +kernel, by decide +kernel⟩, List.mem_of_getElem? (i := 168) (by decide +kernel), List.mem_of_getElem? (i := 539) (by decide +kernel), List.mem_of_getElem? (i := 540) (by decide +kernel)⟩
theorem lw_p50 : lw_okq (⟨"PatchedMachine$Heap", "takeAwayTheRest", "()V"⟩, 7) := ⟨⟨by decide +kernel, by decide +kernel⟩, List.mem_of_getElem? (i := 168) (by decide +kernel), List.mem_of_getElem? (i := 544) (by decide +kernel), List.mem_of_getElem? (i := 545) (by decide +kernel)⟩
theorem lw_p51 : lw_okq (⟨"PatchedMachine$Heap", "moveObjects", "(LPatchedMachine$Program;LPatchedMachine$Program;)I"⟩, 7) := ⟨⟨by decide +kernel, by decide +kernel⟩, List.mem_of_getElem? (i := 168) (by decide +kernel), List.mem_of_getElem? (i := 548) (by decide +kernel), List.mem_of_getElem? (i := 549) (by decide +kernel)⟩
theorem lw_p52 : lw_okq (⟨"PatchedMachine$Heap", "moveValues", "([ILPatchedMachine$Layout;LPatchedMachine$Layout;)V"⟩, 7) := ⟨⟨by decide +kernel, by decide +kernel⟩, List.mem_of_getElem? (i := 168) (by decide +kernel), List.mem_of_getElem? (i := 553) (by decide +kernel), List.mem_of_getElem? (i := 554) (by decide +kernel)⟩
theorem lw_p53 : lw_okq (⟨"PatchedMachine$PatchLine", "advance", "()V"⟩, 3) := ⟨⟨by decide +kernel, by decide +kernel⟩, List.mem_of_getElem? (i := 124) (by decide +kernel), List.mem_of_getElem? (i := 562) (by decide +kernel), List.mem_of_getElem? (i := 563) (by decide +kernel)⟩
theorem lw_p54 : lw_okq (⟨"PatchedMachine$Runner", "goesOn", "()Z"⟩, 6) := ⟨⟨by decide +kernel, by decide +kernel⟩, List.mem_of_getElem? (i := 160) (by decide +kernel), List.mem_of_getElem? (i := 586) (by decide +kernel), List.mem_of_getElem? (i := 587) (by decide +kernel)⟩
theorem lw_p55 : lw_okq (⟨"PatchedMachine$Runner", "begin", "(I)V"⟩, 6) := ⟨⟨by decide +kernel, by decide +kernel⟩, List.mem_of_getElem? (i := 160) (by decide +kernel), List.mem_of_getElem? (i := 591) (by decide +kernel), List.mem_of_getElem? (i := 592) (by decide +kernel)⟩
theorem lw_p56 : lw_okq (⟨"PatchedMachine$Frame", "begin", "(I)V"⟩, 6) := ⟨⟨by decide +kernel, by decide +kernel⟩, List.mem_of_getElem? (i := 213) (by decide +kernel), List.mem_of_getElem? (i := 595) (by decide +kernel), List.mem_of_getElem? (i := 596) (by decide +kernel)⟩
theorem lw_p57 : lw_okq (⟨"PatchedMachine$Runner", "step", "(LPatchedMachine$Program;)V"⟩, 6) := ⟨⟨by decide +kernel, by decide +kernel⟩, List.mem_of_getElem? (i := 160) (by decide +kernel), List.mem_of_getElem? (i := 603) (by decide +kernel), List.mem_of_getElem? (i := 604) (by decide +kernel)⟩
theorem lw_p58 : lw_okq (⟨"PatchedMachine$Runner", "stepOnObjects", "(LPatchedMachine$Frame;IIILPatchedMachine$Program;)V"⟩, 6) := ⟨⟨by decide +kernel, by decide +kernel⟩, List.mem_of_getElem? (i := 160) (by decide +kernel), List.mem_of_getElem? (i := 608) (by decide +kernel), List.mem_of_getElem? (i := 609) (by decide +kernel)⟩
theorem lw_p59 : lw_okq (⟨"PatchedMachine$Runner", "makeObject", "(LPatchedMachine$Frame;ILPatchedMachine$Program;)V"⟩, 6) := ⟨⟨by decide +kernel, by decide +kernel⟩, List.mem_of_getElem? (i := 160) (by decide +kernel), List.mem_of_getElem? (i := 612) (by decide +kernel), List.mem_of_getElem? (i := 613) (by decide +kernel)⟩
theorem lw_p60 : lw_okq (⟨"PatchedMachine$Heap", "isFull", "()Z"⟩, 7) := ⟨⟨by decide +kernel, by decide +kernel⟩, List.mem_of_getElem? (i := 168) (by decide +kernel), List.mem_of_getElem? (i := 616) (by decide +kernel), List.mem_of_getElem? (i := 617) (by decide +kernel)⟩
theorem lw_p61 : lw_okq (⟨"PatchedMachine$Runner", "end", "(I)V"⟩, 6) := ⟨⟨by decide +kernel, by decide +kernel⟩, List.mem_of_getElem? (i := 160) (by decide +kernel), List.mem_of_getElem? (i := 621) (by decide +kernel), List.mem_of_getElem? (i := 622) (by decide +kernel)⟩
theorem lw_p62 : lw_okq (⟨"PatchedMachine$Heap", "make", "(I)I"⟩, 7) := ⟨⟨by decide +kernel, by decide +kernel⟩, List.mem_of_getElem? (i := 168) (by decide +kernel), List.mem_of_getElem? (i := 625) (by decide +kernel), List.mem_of_getElem? (i := 626) (by decide +kernel)⟩
theorem lw_p63 : lw_okq (⟨"PatchedMachine$Frame", "put", "(II)V"⟩, 6) := ⟨⟨by decide +kernel, by decide +kernel⟩, List.mem_of_getElem? (i := 213) (by decide +kernel), List.mem_of_getElem? (i := 629) (by decide +kernel), List.mem_of_getElem? (i := 630) (by decide +kernel)⟩
def lw_privs_4 : List (MethodName × Nat) := [(⟨"PatchedMachine$Heap", "reach", "(II)V"⟩, 7), (⟨"PatchedMachine$Heap", "reachOverFields", "(LPatchedMachine$Program;)V"⟩, 7), (⟨"PatchedMachine$Heap", "takeAwayTheRest", "()V"⟩, 7), (⟨"PatchedMachine$Heap", "moveObjects", "(LPatchedMachine$Program;LPatchedMachine$Program;)I"⟩, 7), (⟨"PatchedMachine$Heap", "moveValues", "([ILPatchedMachine$Layout;LPatchedMachine$Layout;)V"⟩, 7), (⟨"PatchedMachine$PatchLine", "advance", "()V"⟩, 3), (⟨"PatchedMachine$Runner", "goesOn", "()Z"⟩, 6), (⟨"PatchedMachine$Runner", "begin", "(I)V"⟩, 6), (⟨"PatchedMachine$Frame", "begin", "(I)V"⟩, 6), (⟨"PatchedMachine$Runner", "step", "(LPatchedMachine$Program;)V"⟩, 6), (⟨"PatchedMachine$Runner", "stepOnObjects", "(LPatchedMachine$Frame;IIILPatchedMachine$Program;)V"⟩, 6), (⟨"PatchedMachine$Runner", "makeObject", "(LPatchedMachine$Frame;ILPatchedMachine$Program;)V"⟩, 6), (⟨"PatchedMachine$Heap", "isFull", "()Z"⟩, 7), (⟨"PatchedMachine$Runner", "end", "(I)V"⟩, 6), (⟨"PatchedMachine$Heap", "make", "(I)I"⟩, 7), (⟨"PatchedMachine$Frame", "put", "(II)V"⟩, 6)]
theorem lw_r4 : ∀ q ∈ lw_privs_4, lw_okq q := List.forall_mem_cons.mpr ⟨lw_p48, List.forall_mem_cons.mpr ⟨lw_p49, List.forall_mem_cons.mpr ⟨lw_p50, List.forall_mem_cons.mpr ⟨lw_p51, List.forall_mem_cons.mpr ⟨lw_p52, List.forall_mem_cons.mpr ⟨lw_p53, List.forall_mem_cons.mpr ⟨lw_p54, List.forall_mem_cons.mpr ⟨lw_p55, List.forall_mem_cons.mpr ⟨lw_p56, List.forall_mem_cons.mpr ⟨lw_p57, List.forall_mem_cons.mpr ⟨lw_p58, List.forall_mem_cons.mpr ⟨lw_p59, List.forall_mem_cons.mpr ⟨lw_p60, List.forall_mem_cons.mpr ⟨lw_p61, List.forall_mem_cons.mpr ⟨lw_p62, List.forall_mem_cons.mpr ⟨lw_p63, fun _ h => absurd h List.not_mem_nil⟩⟩⟩⟩⟩⟩⟩⟩⟩⟩⟩⟩⟩⟩⟩⟩
theorem lw_p64 : lw_okq (⟨"PatchedMachine$Runner", "readField", "(LPatchedMachine$Frame;LPatchedMachine$Layout;I)V"⟩, 6) := ⟨⟨by decide +kernel, by decide +kernel⟩, List.mem_of_getElem? (i := 160) (by decide +kernel), List.mem_of_getElem? (i := 633) (by decide +kernel), List.mem_of_getElem? (i := 634) (by decide +kernel)⟩
theorem lw_p65 : lw_okq (⟨"PatchedMachine$Frame", "take", "()I"⟩, 6) := ⟨⟨by decide +kernel, by decide +kernel⟩, List.mem_of_getElem? (i := 213) (by decide +kernel), List.mem_of_getElem? (i := 637) (by decide +kernel), List.mem_of_getElem? (i := 638) (by decide +kernel)⟩
theorem lw_p66 : lw_okq (⟨"PatchedMachine$Heap", "valueAt", "(II)I"⟩, 7) := ⟨⟨by decide +kernel, by decide +kernel⟩, List.mem_of_getElem? (i := 168) (by decide +kernel), List.mem_of_getElem? (i := 642) (by decide +kernel), List.mem_of_getElem? (i := 643) (by decide +kernel)⟩
theorem lw_p67 : lw_okq (⟨"PatchedMachine$Heap", "isObject", "(I)Z"⟩, 7) := ⟨⟨by decide +kernel, by decide +kernel⟩, List.mem_of_getElem? (i := 168) (by decide +kernel), List.mem_of_getElem? (i := 646) (by decide +kernel), List.mem_of_getElem? (i := 647) (by decide +kernel)⟩
theorem lw_p68 : lw_okq (⟨"PatchedMachine$Runner", "writeField", "(LPatchedMachine$Frame;LPatchedMachine$Layout;I)V"⟩, 6) := ⟨⟨by decide +kernel, by decide +kernel⟩, List.mem_of_getElem? (i := 160) (by decide +kernel), List.mem_of_getElem? (i := 654) (by decide +kernel), List.mem_of_getElem? (i := 655) (by decide +kernel)⟩
theorem lw_p69 : lw_okq (⟨"PatchedMachine$Heap", "setValue", "(III)V"⟩, 7) := ⟨⟨by decide +kernel, by decide +kernel⟩, List.mem_of_getElem? (i := 168) (by decide +kernel), List.mem_of_getElem? (i := 658) (by decide +kernel), List.mem_of_getElem? (i := 659) (by decide +kernel)⟩
theorem lw_p70 : lw_okq (⟨"PatchedMachine$Runner", "stepElsewhere", "(LPatchedMachine$Frame;IILPatchedMachine$Program;)V"⟩, 6) := ⟨⟨by decide +kernel, by decide +kernel⟩, List.mem_of_getElem? (i := 160) (by decide +kernel), List.mem_of_getElem? (i := 662) (by decide +kernel), List.mem_of_getElem? (i := 663) (by decide +kernel)⟩
theorem lw_p71 : lw_okq (⟨"PatchedMachine$Runner", "enter", "(LPatchedMachine$Frame;ILPatchedMachine$Routine;)V"⟩, 6) := ⟨⟨by decide +kernel, by decide +kernel⟩, List.mem_of_getElem? (i := 160) (by decide +kernel), List.mem_of_getElem? (i := 666) (by decide +kernel), List.mem_of_getElem? (i := 667) (by decide +kernel)⟩
theorem lw_p72 : lw_okq (⟨"PatchedMachine$Runner", "leave", "(LPatchedMachine$Frame;LPatchedMachine$Routine;)V"⟩, 6) := ⟨⟨by decide +kernel, by decide +kernel⟩, List.mem_of_getElem? (i := 160) (by decide +kernel), List.mem_of_getElem? (i := 670) (by decide +kernel), List.mem_of_getElem? (i := 671) (by decide +kernel)⟩
theorem lw_p73 : lw_okq (⟨"PatchedMachine$Runner", "stepOnValues", "(LPatchedMachine$Frame;IILPatchedMachine$Routine;)V"⟩, 6) := ⟨⟨by decide +kernel, by decide +kernel⟩, List.mem_of_getElem? (i := 160) (by decide +kernel), List.mem_of_getElem? (i := 674) (by decide +kernel), List.mem_of_getElem? (i := 675) (by decide +kernel)⟩
theorem lw_p74 : lw_okq (⟨"PatchedMachine$Printer", "print", "(I)V"⟩, 2) := ⟨⟨by decide +kernel, by decide +kernel⟩, List.mem_of_getElem? (i := 200) (by decide +kernel), List.mem_of_getElem? (i := 678) (by decide +kernel), List.mem_of_getElem? (i := 679) (by decide +kernel)⟩
theorem lw_p75 : lw_okq (⟨"PatchedMachine$Printer", "latestBut", "(I)I"⟩, 2) := ⟨⟨by decide +kernel, by decide +kernel⟩, List.mem_of_getElem? (i := 200) (by decide +kernel), List.mem_of_getElem? (i := 712) (by decide +kernel), List.mem_of_getElem? (i := 713) (by decide +kernel)⟩
theorem lw_p76 : lw_okq (⟨"PatchedMachineModel", "find", "(III)I"⟩, 34) := ⟨⟨by decide +kernel, by decide +kernel⟩, List.mem_of_getElem? (i := 724) (by decide +kernel), List.mem_of_getElem? (i := 844) (by decide +kernel), List.mem_of_getElem? (i := 845) (by decide +kernel)⟩
theorem lw_p77 : lw_okq (⟨"PatchedMachineModel", "typeOf", "(III)I"⟩, 34) := ⟨⟨by decide +kernel, by decide +kernel⟩, List.mem_of_getElem? (i := 724) (by decide +kernel), List.mem_of_getElem? (i := 848) (by decide +kernel), List.mem_of_getElem? (i := 849) (by decide +kernel)⟩
theorem lw_p78 : lw_okq (⟨"PatchedMachineModel", "renew", "()V"⟩, 34) := ⟨⟨by decide +kernel, by decide +kernel⟩, List.mem_of_getElem? (i := 724) (by decide +kernel), List.mem_of_getElem? (i := 867) (by decide +kernel), List.mem_of_getElem? (i := 868) (by decide +kernel)⟩
theorem lw_p79 : lw_okq (⟨"PatchedMachineModel", "copy", "(II)V"⟩, 34) := ⟨⟨by decide +kernel, by decide +kernel⟩, List.mem_of_getElem? (i := 724) (by decide +kernel), List.mem_of_getElem? (i := 871) (by decide +kernel), List.mem_of_getElem? (i := 872) (by decide +kernel)⟩
def lw_privs_5 : List (MethodName × Nat) := [(⟨"PatchedMachine$Runner", "readField", "(LPatchedMachine$Frame;LPatchedMachine$Layout;I)V"⟩, 6), (⟨"PatchedMachine$Frame", "take", "()I"⟩, 6), (⟨"PatchedMachine$Heap", "valueAt", "(II)I"⟩, 7), (⟨"PatchedMachine$Heap", "isObject", "(I)Z"⟩, 7), (⟨"PatchedMachine$Runner", "writeField", "(LPatchedMachine$Frame;LPatchedMachine$Layout;I)V"⟩, 6), (⟨"PatchedMachine$Heap", "setValue", "(III)V"⟩, 7), (⟨"PatchedMachine$Runner", "stepElsewhere", "(LPatchedMachine$Frame;IILPatchedMachine$Program;)V"⟩, 6), (⟨"PatchedMachine$Runner", "enter", "(LPatchedMachine$Frame;ILPatchedMachine$Routine;)V"⟩, 6), (⟨"PatchedMachine$Runner", "leave", "(LPatchedMachine$Frame;LPatchedMachine$Routine;)V"⟩, 6), (⟨"PatchedMachine$Runner", "stepOnValues", "(LPatchedMachine$Frame;IILPatchedMachine$Routine;)V"⟩, 6), (⟨"PatchedMachine$Printer", "print", "(I)V"⟩, 2), (⟨"PatchedMachine$Printer", "latestBut", "(I)I"⟩, 2), (⟨"PatchedMachineModel", "find", "(III)I"⟩, 34), (⟨"PatchedMachineModel", "typeOf", "(III)I"⟩, 34), (⟨"PatchedMachineModel", "renew", "()V"⟩, 34), (⟨"PatchedMachineModel", "copy", "(II)V"⟩, 34)]
theorem lw_r5 : ∀ q ∈ lw_privs_5, lw_okq q := List.forall_mem_cons.mpr ⟨lw_p64, List.forall_mem_cons.mpr ⟨lw_p65, List.forall_mem_cons.mpr ⟨lw_p66, List.forall_mem_cons.mpr ⟨lw_p67, List.forall_mem_cons.mpr ⟨lw_p68, List.forall_mem_cons.mpr ⟨lw_p69, List.forall_mem_cons.mpr ⟨lw_p70, List.forall_mem_cons.mpr ⟨lw_p71, List.forall_mem_cons.mpr ⟨lw_p72, List.forall_mem_cons.mpr ⟨lw_p73, List.forall_mem_cons.mpr ⟨lw_p74, List.forall_mem_cons.mpr ⟨lw_p75, List.forall_mem_cons.mpr ⟨lw_p76, List.forall_mem_cons.mpr ⟨lw_p77, List.forall_mem_cons.mpr ⟨lw_p78, List.forall_mem_cons.mpr ⟨lw_p79, fun _ h => absurd h List.not_mem_nil⟩⟩⟩⟩⟩⟩⟩⟩⟩⟩⟩⟩⟩⟩⟩⟩
theorem lw_p80 : lw_okq (⟨"PatchedMachineModel", "wrong", "()I"⟩, 34) := ⟨⟨by decide +kernel, by decide +kernel⟩, List.mem_of_getElem? (i := 724) (by decide +kernel), List.mem_of_getElem? (i := 879) (by decide +kernel), List.mem_of_getElem? (i := 880) (by decide +kernel)⟩
theorem lw_p81 : lw_okq (⟨"PatchedMachineModel", "bad", "(II)Z"⟩, 34) := ⟨⟨by decide +kernel, by decide +kernel⟩, List.mem_of_getElem? (i := 724) (by decide +kernel), List.mem_of_getElem? (i := 883) (by decide +kernel), List.mem_of_getElem? (i := 884) (by decide +kernel)⟩
theorem lw_p82 : lw_okq (⟨"PatchedMachineModel", "goes", "(II)Z"⟩, 34) := ⟨⟨by decide +kernel, by decide +kernel⟩, List.mem_of_getElem? (i := 724) (by decide +kernel), List.mem_of_getElem? (i := 887) (by decide +kernel), List.mem_of_getElem? (i := 888) (by decide +kernel)⟩
theorem lw_p83 : lw_okq (⟨"PatchedMachineModel", "puts", "(I)Z"⟩, 34) := ⟨⟨by decide +kernel, by decide +kernel⟩, List.mem_of_getElem? (i := 724) (by decide +kernel), List.mem_of_getElem? (i := 891) (by decide +kernel), List.mem_of_getElem? (i := 892) (by decide +kernel)⟩
theorem lw_p84 : lw_okq (⟨"PatchedMachineModel", "local", "(II)I"⟩, 34) := ⟨⟨by decide +kernel, by decide +kernel⟩, List.mem_of_getElem? (i := 724) (by decide +kernel), List.mem_of_getElem? (i := 895) (by decide +kernel), List.mem_of_getElem? (i := 896) (by decide +kernel)⟩
theorem lw_p85 : lw_okq (⟨"PatchedMachineModel", "takes", "(I)Z"⟩, 34) := ⟨⟨by decide +kernel, by decide +kernel⟩, List.mem_of_getElem? (i := 724) (by decide +kernel), List.mem_of_getElem? (i := 899) (by decide +kernel), List.mem_of_getElem? (i := 900) (by decide +kernel)⟩
theorem lw_p86 : lw_okq (⟨"PatchedMachineModel", "member", "(III)Z"⟩, 34) := ⟨⟨by decide +kernel, by decide +kernel⟩, List.mem_of_getElem? (i := 724) (by decide +kernel), List.mem_of_getElem? (i := 903) (by decide +kernel), List.mem_of_getElem? (i := 904) (by decide +kernel)⟩
theorem lw_p87 : lw_okq (⟨"PatchedMachineModel", "passes", "(I)Z"⟩, 34) := ⟨⟨by decide +kernel, by decide +kernel⟩, List.mem_of_getElem? (i := 724) (by decide +kernel), List.mem_of_getElem? (i := 907) (by decide +kernel), List.mem_of_getElem? (i := 908) (by decide +kernel)⟩
theorem lw_p88 : lw_okq (⟨"PatchedMachineModel", "aimedAt", "(II)Z"⟩, 34) := ⟨⟨by decide +kernel, by decide +kernel⟩, List.mem_of_getElem? (i := 724) (by decide +kernel), List.mem_of_getElem? (i := 911) (by decide +kernel), List.mem_of_getElem? (i := 912) (by decide +kernel)⟩
theorem lw_p89 : lw_okq (⟨"PatchedMachineModel", "restrictedBy", "()I"⟩, 34) := ⟨⟨by decide +kernel, by decide +kernel⟩, List.mem_of_getElem? (i := 724) (by decide +kernel), List.mem_of_getElem? (i := 915) (by decide +kernel), List.mem_of_getElem? (i := 916) (by decide +kernel)⟩
theorem lw_p90 : lw_okq (⟨"PatchedMachineModel", "otherHead", "(I)Z"⟩, 34) := ⟨⟨by decide +kernel, by decide +kernel⟩, List.mem_of_getElem? (i := 724) (by decide +kernel), List.mem_of_getElem? (i := 919) (by decide +kernel), List.mem_of_getElem? (i := 920) (by decide +kernel)⟩
theorem lw_p91 : lw_okq (⟨"PatchedMachineModel", "settle", "()V"⟩, 34) := ⟨⟨by decide +kernel, by decide +kernel⟩, List.mem_of_getElem? (i := 724) (by decide +kernel), List.mem_of_getElem? (i := 923) (by decide +kernel), List.mem_of_getElem? (i := 924) (by decide +kernel)⟩
theorem lw_p92 : lw_okq (⟨"PatchedMachineModel", "free", "()Z"⟩, 34) := ⟨⟨by decide +kernel, by decide +kernel⟩, List.mem_of_getElem? (i := 724) (by decide +kernel), List.mem_of_getElem? (i := 927) (by decide +kernel), List.mem_of_getElem? (i := 928) (by decide +kernel)⟩
theorem lw_p93 : lw_okq (⟨"PatchedMachineModel", "apply", "()V"⟩, 34) := ⟨⟨by decide +kernel, by decide +kernel⟩, List.mem_of_getElem? (i := 724) (by decide +kernel), List.mem_of_getElem? (i := 931) (by decide +kernel), List.mem_of_getElem? (i := 932) (by decide +kernel)⟩
theorem lw_p94 : lw_okq (⟨"PatchedMachineModel", "collect", "()V"⟩, 34) := ⟨⟨by decide +kernel, by decide +kernel⟩, List.mem_of_getElem? (i := 724) (by decide +kernel), List.mem_of_getElem? (i := 935) (by decide +kernel), List.mem_of_getElem? (i := 936) (by decide +kernel)⟩
theorem lw_p95 : lw_okq (⟨"PatchedMachineModel", "transform", "(II)V"⟩, 34) := ⟨⟨by decide +kernel, by decide +kernel⟩, List.mem_of_getElem? (i := 724) (by decide +kernel), List.mem_of_getElem? (i := 939) (by decide +kernel), List.mem_of_getElem? (i := 940) (by decide +kernel)⟩
def lw_privs_6 : List (MethodName × Nat) := [(⟨"PatchedMachineModel", "wrong", "()I"⟩, 34), (⟨"PatchedMachineModel", "bad", "(II)Z"⟩, 34), (⟨"PatchedMachineModel", "goes", "(II)Z"⟩, 34), (⟨"PatchedMachineModel", "puts", "(I)Z"⟩, 34), (⟨"PatchedMachineModel", "local", "(II)I"⟩, 34), (⟨"PatchedMachineModel", "takes", "(I)Z"⟩, 34), (⟨"PatchedMachineModel", "member", "(III)Z"⟩, 34), (⟨"PatchedMachineModel", "passes", "(I)Z"⟩, 34), (⟨"PatchedMachineModel", "aimedAt", "(II)Z"⟩, 34), (⟨"PatchedMachineModel", "restrictedBy", "()I"⟩, 34), (⟨"PatchedMachineModel", "otherHead", "(I)Z"⟩, 34), (⟨"PatchedMachineModel", "settle", "()V"⟩, 34), (⟨"PatchedMachineModel", "free", "()Z"⟩, 34), (⟨"PatchedMachineModel", "apply", "()V"⟩, 34), (⟨"PatchedMachineModel", "collect", "()V"⟩, 34), (⟨"PatchedMachineModel", "transform", "(II)V"⟩, 34)]
theorem lw_r6 : ∀ q ∈ lw_privs_6, lw_okq q := List.forall_mem_cons.mpr ⟨lw_p80, List.forall_mem_cons.mpr ⟨lw_p81, List.forall_mem_cons.mpr ⟨lw_p82, List.forall_mem_cons.mpr ⟨lw_p83, List.forall_mem_cons.mpr ⟨lw_p84, List.forall_mem_cons.mpr ⟨lw_p85, List.forall_mem_cons.mpr ⟨lw_p86, List.forall_mem_cons.mpr ⟨lw_p87, List.forall_mem_cons.mpr ⟨lw_p88, List.forall_mem_cons.mpr ⟨lw_p89, List.forall_mem_cons.mpr ⟨lw_p90, List.forall_mem_cons.mpr ⟨lw_p91, List.forall_mem_cons.mpr ⟨lw_p92, List.forall_mem_cons.mpr ⟨lw_p93, List.forall_mem_cons.mpr ⟨lw_p94, List.forall_mem_cons.mpr ⟨lw_p95, fun _ h => absurd h List.not_mem_nil⟩⟩⟩⟩⟩⟩⟩⟩⟩⟩⟩⟩⟩⟩⟩⟩
theorem lw_p96 : lw_okq (⟨"PatchedMachineModel", "begin", "(II)V"⟩, 34) := ⟨⟨by decide +kernel, by decide +kernel⟩, List.mem_of_getElem? (i := 724) (by decide +kernel), List.mem_of_getElem? (i := 967) (by decide +kernel), List.mem_of_getElem? (i := 968) (by decide +kernel)⟩
theorem lw_p97 : lw_okq (⟨"PatchedMachineModel", "step", "()V"⟩, 34) := ⟨⟨by decide +kernel, by decide +kernel⟩, List.mem_of_getElem? (i := 724) (by decide +kernel), List.mem_of_getElem? (i := 975) (by decide +kernel), List.mem_of_getElem? (i := 976) (by decide +kernel)⟩
theorem lw_p98 : lw_okq (⟨"PatchedMachineModel", "put", "(II)V"⟩, 34) := ⟨⟨by decide +kernel, by decide +kernel⟩, List.mem_of_getElem? (i := 724) (by decide +kernel), List.mem_of_getElem? (i := 979) (by decide +kernel), List.mem_of_getElem? (i := 980) (by decide +kernel)⟩
theorem lw_p99 : lw_okq (⟨"PatchedMachineModel", "take", "()I"⟩, 34) := ⟨⟨by decide +kernel, by decide +kernel⟩, List.mem_of_getElem? (i := 724) (by decide +kernel), List.mem_of_getElem? (i := 983) (by decide +kernel), List.mem_of_getElem? (i := 984) (by decide +kernel)⟩
theorem lw_p100 : lw_okq (⟨"PatchedMachineModel", "call", "(I)V"⟩, 34) := ⟨⟨by decide +kernel, by decide +kernel⟩, List.mem_of_getElem? (i := 724) (by decide +kernel), List.mem_of_getElem? (i := 987) (by decide +kernel), List.mem_of_getElem? (i := 988) (by decide +kernel)⟩
theorem lw_p101 : lw_okq (⟨"PatchedMachineModel", "leave", "(I)V"⟩, 34) := ⟨⟨by decide +kernel, by decide +kernel⟩, List.mem_of_getElem? (i := 724) (by decide +kernel), List.mem_of_getElem? (i := 991) (by decide +kernel), List.mem_of_getElem? (i := 992) (by decide +kernel)⟩
theorem lw_p102 : lw_okq (⟨"PatchedMachineModel", "object", "(III)V"⟩, 34) := ⟨⟨by decide +kernel, by decide +kernel⟩, List.mem_of_getElem? (i := 724) (by decide +kernel), List.mem_of_getElem? (i := 995) (by decide +kernel), List.mem_of_getElem? (i := 996) (by decide +kernel)⟩
theorem lw_p103 : lw_okq (⟨"PatchedMachineModel", "born", "(I)I"⟩, 34) := ⟨⟨by decide +kernel, by decide +kernel⟩, List.mem_of_getElem? (i := 724) (by decide +kernel), List.mem_of_getElem? (i := 999) (by decide +kernel), List.mem_of_getElem? (i := 1000) (by decide +kernel)⟩
def lw_privs_7 : List (MethodName × Nat) := [(⟨"PatchedMachineModel", "begin", "(II)V"⟩, 34), (⟨"PatchedMachineModel", "step", "()V"⟩, 34), (⟨"PatchedMachineModel", "put", "(II)V"⟩, 34), (⟨"PatchedMachineModel", "take", "()I"⟩, 34), (⟨"PatchedMachineModel", "call", "(I)V"⟩, 34), (⟨"PatchedMachineModel", "leave", "(I)V"⟩, 34), (⟨"PatchedMachineModel", "object", "(III)V"⟩, 34), (⟨"PatchedMachineModel", "born", "(I)I"⟩, 34)]
theorem lw_r7 : ∀ q ∈ lw_privs_7, lw_okq q := List.forall_mem_cons.mpr ⟨lw_p96, List.forall_mem_cons.mpr ⟨lw_p97, List.forall_mem_cons.mpr ⟨lw_p98, List.forall_mem_cons.mpr ⟨lw_p99, List.forall_mem_cons.mpr ⟨lw_p100, List.forall_mem_cons.mpr ⟨lw_p101, List.forall_mem_cons.mpr ⟨lw_p102, List.forall_mem_cons.mpr ⟨lw_p103, fun _ h => absurd h List.not_mem_nil⟩⟩⟩⟩⟩⟩⟩⟩
def lw_privs : List (MethodName × Nat) := lw_privs_1 ++ (lw_privs_2 ++ (lw_privs_3 ++ (lw_privs_4 ++ (lw_privs_5 ++ (lw_privs_6 ++ (lw_privs_7))))))
def lw_tbl : List Cond := k2_sels lw_privs ++ tables_1
theorem lw_privs_ok : ∀ q ∈ lw_privs, lw_okq q := by
  show ∀ q ∈ lw_privs_1 ++ (lw_privs_2 ++ (lw_privs_3 ++ (lw_privs_4 ++ (lw_privs_5 ++ (lw_privs_6 ++ (lw_privs_7)))))), lw_okq q
  exact List.forall_mem_append.mpr ⟨lw_r1, List.forall_mem_append.mpr ⟨lw_r2, List.forall_mem_append.mpr ⟨lw_r3, List.forall_mem_append.mpr ⟨lw_r4, List.forall_mem_append.mpr ⟨lw_r5, List.forall_mem_append.mpr ⟨lw_r6, lw_r7⟩⟩⟩⟩⟩⟩
end
section
/-! the words that a contract may have, and those that go with the state -/
def am_gt : List Jvm.Cond := lw_tbl.filter goodWord
def am_isN : Jvm.Cond → Bool
  | .fieldLinkNest .. => true
  | .methodLinkNest .. => true
  | .arrayOver (.object _) => true
  | .arrayOver (.array _) => true
  | _ => false
def am_nt : List Jvm.Cond := lw_tbl.filter am_isN
def am_tb : List Jvm.Cond := lw_tbl.filter (fun w => goodWord w || am_isN w)
theorem am_nt_k : ∀ w ∈ am_nt, am_isN w = true := fun w hw => (List.mem_filter.mp hw).2
def am_NW (U : State) : Prop := ∀ w ∈ am_nt, w.before #[] U = true
theorem am_aoA_spec {args : Array Value} {first s : State} {o : Option Outcome} {idx : List Nat} {n : FieldType} (h : (Cond.arrayOver (.array n)).holds args first o s idx = true) :
    ∃ comp c k, s.vm.findClass (FieldType.array n).toString = some comp ∧ (s.vm.classes.findIdx? fun x => match x.kind with | .array component _ => component == comp | _ => false) = some c ∧ s.vm.classes[c]? = some k ∧ k.kind = .array comp (.array n) ∧
      s.vm.findClass ("[" ++ (FieldType.array n).toString) = some c := by
  simp only [Cond.holds, Cond.value, beq_iff_eq] at h
  cases hc : s.vm.findClass (FieldType.array n).toString with
  | none => simp [hc] at h
  | some comp =>
    simp only [hc, Option.bind_some, Option.bind_eq_some_iff, Option.map_eq_some_iff] at h
    obtain ⟨c, hi, k, hk, hb⟩ := h
    obtain ⟨hlt, hp, -⟩ := Array.findIdx?_eq_some_iff_getElem.mp hi
    have hkk : s.vm.classes[c] = k := (Array.getElem?_eq_some_iff.mp hk).2
    rw [hkk] at hp
    cases hkind : k.kind with
    | array component ty =>
      rw [hkind] at hb hp
      simp at hb hp
      exact ⟨comp, c, k, rfl, hi, hk, by rw [hkind, hp, hb.1], hb.2⟩
    | _ => rw [hkind] at hb; simp at hb
theorem am_aoA_moved {t : FieldType} {u U : State} (hvm : u.vm.Alike U.vm) (h : (Cond.arrayOver (.array t)).before #[] u = true) : (Cond.arrayOver (.array t)).before #[] U = true := by
  obtain ⟨comp, c, k, h1, h2, h3, h4, h5⟩ := am_aoA_spec h
  obtain ⟨k', hk', he⟩ := hvm.2.2 _ _ h3
  have hi : (U.vm.classes.findIdx? fun (x : Class) => match x.kind with | .array component _ => component == comp | _ => false) = some c := by
    have e1 := va_idx_bare U.vm comp
    have e2 := va_idx_bare u.vm comp
    first | rw [hvm.bare_eq] at e1 | rw [← hvm.bare_eq] at e1
    exact (e1.symm.trans e2).trans h2
  have hkind : k'.kind = .array comp (.array t) := by rw [he]; exact h4
  have f1 : U.vm.findClass (FieldType.array t).toString = some comp := by rw [hvm.findClass]; exact h1
  have f2 : U.vm.findClass ("[" ++ (FieldType.array t).toString) = some c := by rw [hvm.findClass]; exact h5
  unfold Cond.before Cond.holds
  simp only [Cond.value]
  rw [f1, Option.bind_some]
  refine (congrArg (fun o : Option Nat => (o.bind (fun c => (U.vm.classes[c]?).map fun (k : Class) => match k.kind with | .array _ ty => decide (ty = FieldType.array t) && decide (U.vm.findClass ("[" ++ (FieldType.array t).toString) = some c) | _ => false) == some true)) hi).trans ?_
  simp [hk', hkind, f2]
theorem am_N_warm {s U : State} (hW : s.WarmedH U.vm) {w : Jvm.Cond} (hk : am_isN w = true) (h : w.before #[] s = true) : w.before #[] U = true := by
  cases w with
  | fieldLinkNest a i b n d x => exact va_Nw.warmF hW h
  | methodLinkNest a i x y => exact va_Nw.warmM hW h
  | arrayOver t =>
    cases t with
    | object C => exact va_AO.moved hW.alike h
    | array t => exact am_aoA_moved hW.alike h
    | _ => cases hk
  | _ => cases hk
theorem am_N_same {u U : State} (hv : u.vm = U.vm) {w : Jvm.Cond} (hk : am_isN w = true) (h : w.before #[] u = true) : w.before #[] U = true := by
  cases w with
  | fieldLinkNest a i b n d x => exact va_tabs rfl hv h
  | methodLinkNest a i x y => exact va_tabs rfl hv h
  | arrayOver t =>
    have ha : u.vm.Alike U.vm := by rw [hv]; exact Vm.Alike.refl _
    cases t with
    | object C => exact va_AO.moved ha h
    | array t => exact am_aoA_moved ha h
    | _ => cases hk
  | _ => cases hk
theorem am_N_use {s : State} {args : Array Value} {w : Jvm.Cond} (hk : am_isN w = true) (h : w.before #[] s = true) : w.before args s = true := by
  cases w with
  | fieldLinkNest a i b n d x => exact va_tabs rfl rfl h
  | methodLinkNest a i x y => exact va_tabs rfl rfl h
  | arrayOver t => exact h
  | _ => cases hk
theorem am_N_of {s : State} {args : Array Value} {w : Jvm.Cond} (hk : am_isN w = true) (h : w.before args s = true) : w.before #[] s = true := by
  cases w with
  | fieldLinkNest a i b n d x => exact va_tabs rfl rfl h
  | methodLinkNest a i x y => exact va_tabs rfl rfl h
  | arrayOver t => exact h
  | _ => cases hk
theorem am_NW_warm {s U : State} (hW : s.WarmedH U.vm) (h : am_NW s) : am_NW U := fun w hw => am_N_warm hW (am_nt_k w hw) (h w hw)
theorem am_NW_same {u U : State} (hv : u.vm = U.vm) (h : am_NW u) : am_NW U := fun w hw => am_N_same hv (am_nt_k w hw) (h w hw)
theorem am_all {s : State} {args : Array Value} (hts : ∀ w ∈ am_gt, w.before args s = true) (hN : am_NW s) : ∀ w ∈ am_tb, w.before args s = true := by
  intro w hw
  have h1 := List.mem_filter.mp hw
  cases hg : goodWord w with
  | true => exact hts w (List.mem_filter.mpr ⟨h1.1, hg⟩)
  | false =>
    have hm : w ∈ am_nt := List.mem_filter.mpr ⟨h1.1, by have := h1.2; rw [hg, Bool.false_or] at this; exact this⟩
    exact am_N_use (am_nt_k w hm) (hN w hm)
theorem am_NW_of {s : State} {args : Array Value} (hts : ∀ w ∈ lw_tbl, w.before args s = true) : am_NW s := fun w hw => am_N_of (am_nt_k w hw) (hts w (List.mem_filter.mp hw).1)
end
section
/-! The small machine (am_): cells go by number, references never name addresses; all ints stand in one table. It runs the decoded instructions of a method; calls go to functions. -/
/-- a cell: .inl (array type, length, none: ints, or its references), .inr (its kind, its fields: none an int, some a reference) -/
abbrev am_D : Type := (Nat × Nat × Option (List (Option Nat))) ⊕ (Nat × List (Option (Option Nat)))
abbrev am_S : Type := Nat → Nat → Int32
abbrev am_H : Type := List am_D × am_S
abbrev am_F : Type := Nat → List Value → am_H → Option (Option Value × am_H)
/-- a method: code, fields, calls, blank objects, array types, the script, what it returns (0 int, 1 boolean, 2 nothing, 3 a reference) -/
abbrev am_M : Type := (Nat → Option Instr) × (Nat → Option (Nat × Nat × Nat)) × (Nat → Option (Nat × Option Nat × am_F)) × (Nat → Option (Nat × List (Option (Option Nat)))) × (Nat → Option Nat) × Option (Nat × (Nat → Int32)) × Nat
abbrev am_code (M : am_M) : Nat → Option Instr := M.1
abbrev am_fld (M : am_M) : Nat → Option (Nat × Nat × Nat) := M.2.1
abbrev am_cal (M : am_M) : Nat → Option (Nat × Option Nat × am_F) := M.2.2.1
abbrev am_new (M : am_M) : Nat → Option (Nat × List (Option (Option Nat))) := M.2.2.2.1
abbrev am_arr (M : am_M) : Nat → Option Nat := M.2.2.2.2.1
abbrev am_scr (M : am_M) : Option (Nat × (Nat → Int32)) := M.2.2.2.2.2.1
abbrev am_ret (M : am_M) : Nat := M.2.2.2.2.2.2
/-- a place outside an array of n -/
abbrev am_out (x : Int32) (n : Nat) : Prop := x < 0 ∨ n ≤ x.toNatClampNeg
def am_wr (s : am_S) (i k : Nat) (v : Int32) : am_S := if s i k = v then s else fun i' k' => if i' = i ∧ k' = k then v else s i' k'
theorem am_wr_at (s : am_S) (i k : Nat) (v : Int32) (i' k' : Nat) : am_wr s i k v i' k' = if i' = i ∧ k' = k then v else s i' k' := by
  unfold am_wr
  split
  · rename_i h
    split
    · rename_i h2
      rw [h2.1, h2.2, h]
    · rfl
  · rfl
theorem am_wr_self (s : am_S) (i k : Nat) (v : Int32) : am_wr s i k v i k = v := by rw [am_wr_at, if_pos ⟨rfl, rfl⟩]
theorem am_wr_row (s : am_S) {i k : Nat} {v : Int32} {i' : Nat} (h : i' ≠ i) : am_wr s i k v i' = s i' := by
  funext k'
  rw [am_wr_at, if_neg (fun q => h q.1)]
theorem am_wr_col (s : am_S) {i k : Nat} {v : Int32} {i' k' : Nat} (h : k' ≠ k) : am_wr s i k v i' k' = s i' k' := by
  rw [am_wr_at, if_neg (fun q => h q.2)]
theorem am_wr_upd (s : am_S) (i k : Nat) (v : Int32) : am_wr s i k v i = upd (s i) k v := by
  funext k'
  rw [am_wr_at]
  unfold upd
  by_cases h : k' = k
  · rw [if_pos ⟨rfl, h⟩, if_pos h]
  · rw [if_neg (fun q => h q.2), if_neg h]
def am_gf (h : am_H) (i ci k : Nat) : Option Value :=
  match h.1[i]? with
  | some (.inr q) => if q.1 = ci then (match q.2[k]? with
      | some none => some (.int (h.2 i k))
      | some (some none) => some .null
      | some (some (some j)) => some (.ref j)
      | none => none) else none
  | _ => none
def am_pf (h : am_H) (i ci k kd : Nat) (v : Value) : Option am_H :=
  match h.1[i]? with
  | some (.inr q) => if q.1 = ci then (match q.2[k]?, kd, v with
      | some none, 0, .int x => some (h.1, am_wr h.2 i k x)
      | some none, 1, .int x => if x = 0 ∨ x = 1 then some (h.1, am_wr h.2 i k x) else none
      | some (some _), 2, .ref j => some (h.1.set i (.inr (q.1, q.2.set k (some (some j)))), h.2)
      | _, _, _ => none) else none
  | _ => none
def am_ld (h : am_H) (t i : Nat) (x : Int32) : Option Int32 :=
  match h.1[i]? with
  | some (.inl (t', n, none)) => if t' = t ∧ ¬ am_out x n then some (h.2 i x.toNatClampNeg) else none
  | _ => none
def am_sd (h : am_H) (t i : Nat) (x v : Int32) : Option am_H :=
  match h.1[i]? with
  | some (.inl (t', n, none)) => if t' = t ∧ ¬ am_out x n ∧ (t = 0 ∨ v = 0 ∨ v = 1) then some (h.1, am_wr h.2 i x.toNatClampNeg v) else none
  | _ => none
def am_la (h : am_H) (i : Nat) (x : Int32) : Option Nat :=
  match h.1[i]? with
  | some (.inl (_, n, some rs)) => if am_out x n then none else (rs[x.toNatClampNeg]?).join
  | _ => none
/-- the array types, and whose objects they hold -/
def am_ty : Nat → Option FieldType
  | 0 => some .int
  | 1 => some .boolean
  | 2 => some (.object "PatchedMachine$Layout")
  | 3 => some (.object "PatchedMachine$Routine")
  | 4 => some (.object "PatchedMachine$Program")
  | 5 => some (.object "PatchedMachine$Frame")
  | 6 => some (.array .int)
  | _ => none
def am_tyc : Nat → Option Nat
  | 2 => some 0
  | 3 => some 1
  | 4 => some 2
  | 5 => some 7
  | _ => none
def am_sa (h : am_H) (i : Nat) (x : Int32) (j : Nat) : Option am_H :=
  match h.1[i]?, h.1[j]? with
  | some (.inl (t, n, some rs)), some (.inr q) => if am_out x n ∨ ¬ am_tyc t = some q.1 then none else some (h.1.set i (.inl (t, n, some (rs.set x.toNatClampNeg (some j)))), h.2)
  | _, _ => none
def am_len : Instr → Nat
  | .bipush _ => 2 | .sipush _ => 3
  | .iload _ => 2 | .istore _ => 2 | .aload _ => 2 | .astore _ => 2 | .newarray _ => 2
  | .iinc _ _ => 3 | .getfield _ => 3 | .putfield _ => 3 | .new _ => 3 | .anewarray _ => 3
  | .goto _ => 3 | .ifCond _ _ => 3 | .if_icmp _ _ => 3
  | .invokevirtual _ => 3 | .invokespecial _ => 3 | .invokestatic _ => 3
  | .multianewarray _ _ => 4
  | .tableswitch _ _ _ _ => 0 | .lookupswitch _ _ => 0
  | _ => 1
/-- a store; what lies beyond the known ones is forgotten -/
def am_lst (v : Value) : Nat → List Value → List Value
  | 0, l => v :: l.tail
  | i + 1, l => match l with
    | x :: r => x :: am_lst v i r
    | [] => []
def am_b2 (f : Int32 → Int32 → Int32) (ls st : List Value) : Option (List Value × List Value) :=
  match st with
  | .int y :: .int x :: r => some (ls, .int (f x y) :: r)
  | _ => none
def am_ildF (ls st : List Value) (k : Nat) : Option (List Value × List Value) :=
  match ls[k]? with
  | some (.int x) => some (ls, .int x :: st)
  | _ => none
def am_aldF (ls st : List Value) (k : Nat) : Option (List Value × List Value) :=
  match ls[k]? with
  | some (.ref x) => some (ls, .ref x :: st)
  | some (.retAddr x) => some (ls, .retAddr x :: st)
  | _ => none
def am_istF (ls st : List Value) (k : Nat) : Option (List Value × List Value) :=
  match st with
  | .int x :: r => some (am_lst (.int x) k ls, r)
  | _ => none
def am_astF (ls st : List Value) (k : Nat) : Option (List Value × List Value) :=
  match st with
  | .ref x :: r => some (am_lst (.ref x) k ls, r)
  | _ => none
def am_incF (ls st : List Value) (k : Nat) (n : Int) : Option (List Value × List Value) :=
  match ls[k]? with
  | some (.int x) => some (am_lst (.int (x + Int32.ofInt n)) k ls, st)
  | _ => none
def am_remF (ls st : List Value) : Option (List Value × List Value) :=
  match st with
  | .int y :: .int x :: r => if y = 0 then none else some (ls, .int (x - x / y * y) :: r)
  | _ => none
def am_c1 (v : Value) : Bool := match v with
  | .int _ => true
  | .ref _ => true
  | .retAddr _ => true
  | .null => true
  | _ => false
def am_dupF (ls st : List Value) : Option (List Value × List Value) :=
  match st with
  | a :: r => if am_c1 a then some (ls, a :: a :: r) else none
  | _ => none
def am_popF (ls st : List Value) : Option (List Value × List Value) :=
  match st with
  | a :: r => if am_c1 a then some (ls, r) else none
  | _ => none
def am_dx1F (ls st : List Value) : Option (List Value × List Value) :=
  match st with
  | a :: b :: r => if am_c1 a && am_c1 b then some (ls, a :: b :: a :: r) else none
  | _ => none
def am_dx2F (ls st : List Value) : Option (List Value × List Value) :=
  match st with
  | a :: b :: d :: r => if am_c1 a && am_c1 b && am_c1 d then some (ls, a :: b :: d :: a :: r) else none
  | _ => none
def am_d2F (ls st : List Value) : Option (List Value × List Value) :=
  match st with
  | a :: b :: r => if am_c1 a && am_c1 b then some (ls, a :: b :: a :: b :: r) else none
  | _ => none
/-- what is on the stack -/
def am_P (i : Instr) (ls st : List Value) : Option (List Value × List Value) :=
  match i with
  | .iconst n => some (ls, .int (Int32.ofInt n) :: st)
  | .bipush n => some (ls, .int (Int8.ofInt n).toInt32 :: st)
  | .sipush n => some (ls, .int (Int16.ofInt n).toInt32 :: st)
  | .iload_n k => am_ildF ls st k
  | .iload k => am_ildF ls st k
  | .aload_n k => am_aldF ls st k
  | .aload k => am_aldF ls st k
  | .istore_n k => am_istF ls st k
  | .istore k => am_istF ls st k
  | .astore_n k => am_astF ls st k
  | .astore k => am_astF ls st k
  | .iinc k n => am_incF ls st k n
  | .iadd => am_b2 (fun x y => x + y) ls st
  | .isub => am_b2 (fun x y => x - y) ls st
  | .imul => am_b2 (fun x y => x * y) ls st
  | .iand => am_b2 (fun x y => x &&& y) ls st
  | .ior => am_b2 (fun x y => x ||| y) ls st
  | .ixor => am_b2 (fun x y => x ^^^ y) ls st
  | .ishl => am_b2 (fun x y => x <<< (y &&& 31)) ls st
  | .ishr => am_b2 (fun x y => x >>> (y &&& 31)) ls st
  | .irem => am_remF ls st
  | .dup => am_dupF ls st
  | .pop => am_popF ls st
  | .dup_x1 => am_dx1F ls st
  | .dup_x2 => am_dx2F ls st
  | .dup2 => am_d2F ls st
  | _ => none
abbrev am_jmp (pc : Nat) (off : Int) : Nat := ((pc : Int) + off).toNat
def am_if (c : Jvm.ClassFile.Cond) (x y : Int32) (a b : Nat) : Nat := match c with
  | .eq => if x = y then a else b
  | .ne => if ¬ x = y then a else b
  | .lt => if x < y then a else b
  | .ge => if y ≤ x then a else b
  | .gt => if y < x then a else b
  | .le => if x ≤ y then a else b
def am_tsw (pc : Nat) (d lo hi : Int) (offs : Array Int) (x : Int32) : Nat := if x.toInt < lo ∨ hi < x.toInt then am_jmp pc d else am_jmp pc ((offs[(x.toInt - lo).toNat]?).getD 0)
def am_lsw (pc : Nat) (d : Int) (ps : Array (Int × Int)) (x : Int32) : Nat := am_jmp pc (Op.lookupswitch.offset ps.toList d x.toInt)
/-- jumps -/
def am_J (i : Instr) (pc : Nat) (st : List Value) : Option (Nat × List Value) :=
  match i with
  | .goto off => some (am_jmp pc off, st)
  | .ifCond c off => (match st with
    | .int x :: r => some (am_if c x 0 (am_jmp pc off) (pc + 3), r)
    | _ => none)
  | .if_icmp c off => (match st with
    | .int y :: .int x :: r => some (am_if c x y (am_jmp pc off) (pc + 3), r)
    | _ => none)
  | .tableswitch d lo hi offs => (match st with
    | .int x :: r => some (am_tsw pc d lo hi offs x, r)
    | _ => none)
  | .lookupswitch d ps => (match st with
    | .int x :: r => some (am_lsw pc d ps x, r)
    | _ => none)
  | _ => none
def am_gfF (M : am_M) (x : Nat) (st : List Value) (h : am_H) : Option (List Value × am_H) :=
  match am_fld M x, st with
  | some q, .ref i :: r => (match am_gf h i q.1 q.2.1 with
    | some v => some (v :: r, h)
    | none => none)
  | _, _ => none
def am_pfF (M : am_M) (x : Nat) (st : List Value) (h : am_H) : Option (List Value × am_H) :=
  match am_fld M x, st with
  | some q, v :: .ref i :: r => (match am_pf h i q.1 q.2.1 q.2.2 v with
    | some h' => some (r, h')
    | none => none)
  | _, _ => none
def am_sld (M : am_M) (x : Int32) : Option Int32 :=
  match am_scr M with
  | some q => if am_out x q.1 then none else some (q.2 x.toNatClampNeg)
  | none => none
def am_ldF (M : am_M) (t : Nat) (st : List Value) (h : am_H) : Option (List Value × am_H) :=
  match st with
  | .int x :: .ref i :: r => (match am_ld h t i x with
    | some v => some (.int v :: r, h)
    | none => none)
  | .int x :: .retAddr _ :: r => if t = 0 then (match am_sld M x with
    | some v => some (.int v :: r, h)
    | none => none) else none
  | _ => none
def am_sdF (t : Nat) (st : List Value) (h : am_H) : Option (List Value × am_H) :=
  match st with
  | .int v :: .int x :: .ref i :: r => (match am_sd h t i x v with
    | some h' => some (r, h')
    | none => none)
  | _ => none
def am_laF (st : List Value) (h : am_H) : Option (List Value × am_H) :=
  match st with
  | .int x :: .ref i :: r => (match am_la h i x with
    | some j => some (.ref j :: r, h)
    | none => none)
  | _ => none
def am_saF (st : List Value) (h : am_H) : Option (List Value × am_H) :=
  match st with
  | .ref j :: .int x :: .ref i :: r => (match am_sa h i x j with
    | some h' => some (r, h')
    | none => none)
  | _ => none
def am_alF (M : am_M) (st : List Value) (h : am_H) : Option (List Value × am_H) :=
  match am_scr M, st with
  | some q, .retAddr _ :: r => some (.int (Int32.ofNat q.1) :: r, h)
  | _, _ => none
def am_mkI (t : Nat) (st : List Value) (h : am_H) : Option (List Value × am_H) :=
  match st with
  | .int n :: r => if am_out n 1000 then none else some (.ref h.1.length :: r, (h.1 ++ [.inl (t, n.toNatClampNeg, none)], h.2))
  | _ => none
def am_mkA (M : am_M) (x : Nat) (st : List Value) (h : am_H) : Option (List Value × am_H) :=
  match am_arr M x, st with
  | some t, .int n :: r => if am_out n 1000 then none else some (.ref h.1.length :: r, (h.1 ++ [.inl (t, n.toNatClampNeg, some (List.replicate n.toNatClampNeg none))], h.2))
  | _, _ => none
def am_mkG (M : am_M) (x : Nat) (st : List Value) (h : am_H) : Option (List Value × am_H) :=
  match am_arr M x, st with
  | some t, .int k :: .int n :: r => if am_out n 1000 ∨ am_out k 1000 then none else
    some (.ref h.1.length :: r, (h.1 ++ ([.inl (t, n.toNatClampNeg, some ((List.range n.toNatClampNeg).map fun i => some (h.1.length + 1 + i)))] ++ List.replicate n.toNatClampNeg (.inl (0, k.toNatClampNeg, none))), h.2))
  | _, _ => none
def am_mkO (M : am_M) (x : Nat) (st : List Value) (h : am_H) : Option (List Value × am_H) :=
  match am_new M x with
  | some q => some (.ref h.1.length :: st, (h.1 ++ [.inr q], h.2))
  | none => none
/-- the cells -/
def am_X (M : am_M) (i : Instr) (st : List Value) (h : am_H) : Option (List Value × am_H) :=
  match i with
  | .getfield x => am_gfF M x st h
  | .putfield x => am_pfF M x st h
  | .iaload => am_ldF M 0 st h
  | .baload => am_ldF M 1 st h
  | .iastore => am_sdF 0 st h
  | .bastore => am_sdF 1 st h
  | .aaload => am_laF st h
  | .aastore => am_saF st h
  | .arraylength => am_alF M st h
  | .newarray .int => am_mkI 0 st h
  | .newarray .boolean => am_mkI 1 st h
  | .anewarray x => am_mkA M x st h
  | .multianewarray x k => if k = 2 then am_mkG M x st h else none
  | .new x => am_mkO M x st h
  | _ => none
/-- is the receiver of this kind? -/
def am_rc (h : am_H) (as : List Value) : Option Nat → Bool
  | none => true
  | some ci => match as with
    | .ref a :: _ => (match h.1[a]? with
      | some (.inr q) => q.1 == ci
      | _ => false)
    | _ => false
def am_callF (M : am_M) (N x : Nat) (st : List Value) (h : am_H) : Option (List Value × am_H) :=
  match am_cal M x with
  | some q => if (st.length < q.1 ∨ 8 < st.length - q.1) ∨ am_rc h (st.take q.1).reverse q.2.1 = false then none else (match q.2.2 N (st.take q.1).reverse h with
    | some z => some (z.1.toList ++ st.drop q.1, z.2)
    | none => none)
  | none => none
/-- calls -/
def am_Y (M : am_M) (N : Nat) (i : Instr) (st : List Value) (h : am_H) : Option (List Value × am_H) :=
  match i with
  | .invokevirtual x => am_callF M N x st h
  | .invokespecial x => am_callF M N x st h
  | .invokestatic x => am_callF M N x st h
  | _ => none
/-- returns -/
def am_R (M : am_M) (i : Instr) (st : List Value) : Option (Option Value) :=
  match i with
  | .ireturn => (match st with
    | [.int x] => if am_ret M = 0 ∨ am_ret M = 1 ∧ (x = 0 ∨ x = 1) then some (some (.int x)) else none
    | _ => none)
  | .areturn => (match st with
    | [.ref x] => if am_ret M = 3 then some (some (.ref x)) else none
    | _ => none)
  | .return_ => (match st with
    | [] => if am_ret M = 2 then some none else none
    | _ => none)
  | _ => none
def am_stp (M : am_M) (N : Nat) (i : Instr) (pc : Nat) (ls st : List Value) (h : am_H) : Option (Nat × List Value × List Value × am_H) :=
  match am_P i ls st with
  | some q => some (pc + am_len i, q.1, q.2, h)
  | none => match am_J i pc st with
    | some q => some (q.1, ls, q.2, h)
    | none => match am_X M i st h with
      | some q => some (pc + am_len i, ls, q.1, q.2)
      | none => match am_Y M N i st h with
        | some q => some (pc + 3, ls, q.1, q.2)
        | none => none
def am_run (M : am_M) (N : Nat) : Nat → Nat → List Value → List Value → am_H → Option (Option Value × am_H)
  | 0, _, _, _, _ => none
  | n + 1, pc, ls, st, h => match am_code M pc with
    | none => none
    | some i => match am_R M i st with
      | some r => some (r, h)
      | none => match am_stp M N i pc ls st h with
        | none => none
        | some q => am_run M N n q.1 q.2.1 q.2.2.1 q.2.2.2
end
section
/-! The small machine's runs: fuel goes away; each instruction is an equivalence. -/
def am_W (M : am_M) (pc : Nat) (ls st : List Value) (h : am_H) (Q : Option Value → am_H → Prop) : Prop := ∃ (N : Nat) (r : Option Value) (h' : am_H), am_run M N N pc ls st h = some (r, h') ∧ Q r h'
def am_C (f : am_F) (as : List Value) (h : am_H) (Q : Option Value → am_H → Prop) : Prop := ∃ (N : Nat) (r : Option Value) (h' : am_H), f N as h = some (r, h') ∧ Q r h'
def am_fn (M : am_M) : am_F := fun N as h => am_run M N N 0 as [] h
def am_mono (f : am_F) : Prop := ∀ (N N' : Nat) (as : List Value) (h : am_H) (x : Option Value × am_H), N ≤ N' → f N as h = some x → f N' as h = some x
def am_ok (M : am_M) : Prop := ∀ (x : Nat) (q : Nat × Option Nat × am_F), am_cal M x = some q → am_mono q.2.2
def am_ob {α : Type} (o : Option α) (K : α → Prop) : Prop := match o with
  | some a => K a
  | none => False
theorem am_ob_s {α : Type} (a : α) (K : α → Prop) : am_ob (some a) K ↔ K a := Iff.rfl
theorem am_ob_n {α : Type} (K : α → Prop) : am_ob none K ↔ False := Iff.rfl
section AW
variable {M : am_M} {N N' n n' pc x : Nat} {ls st rest : List Value} {h : am_H} {i : Instr} {Q : Option Value → am_H → Prop}
theorem am_callF_mono {z : List Value × am_H} (hM : am_ok M) (hN : N ≤ N') (e : am_callF M N x st h = some z) : am_callF M N' x st h = some z := by
  unfold am_callF at e ⊢
  cases hq : am_cal M x with
  | none => rw [hq] at e; cases e
  | some q =>
    rw [hq] at e
    dsimp only at e ⊢
    by_cases hc : (st.length < q.1 ∨ 8 < st.length - q.1) ∨ am_rc h (st.take q.1).reverse q.2.1 = false
    · rw [if_pos hc] at e; cases e
    · rw [if_neg hc] at e ⊢
      cases hf : q.2.2 N (st.take q.1).reverse h with
      | none => rw [hf] at e; cases e
      | some w =>
        rw [hf] at e
        rw [hM x q hq N N' _ _ w hN hf]
        exact e
theorem am_Y_mono {z : List Value × am_H} (hM : am_ok M) (hN : N ≤ N') (e : am_Y M N i st h = some z) : am_Y M N' i st h = some z := by
  cases i <;> first | exact am_callF_mono hM hN e | (simp [am_Y] at e; done)
theorem am_stp_mono {q : Nat × List Value × List Value × am_H} (hM : am_ok M) (hN : N ≤ N') (e : am_stp M N i pc ls st h = some q) : am_stp M N' i pc ls st h = some q := by
  unfold am_stp at e ⊢
  cases h1 : am_P i ls st with
  | some a => rw [h1] at e; exact e
  | none =>
    rw [h1] at e
    cases h2 : am_J i pc st with
    | some a => rw [h2] at e; exact e
    | none =>
      rw [h2] at e
      cases h3 : am_X M i st h with
      | some a => rw [h3] at e; exact e
      | none =>
        rw [h3] at e
        cases h4 : am_Y M N i st h with
        | some a => rw [h4] at e; rw [am_Y_mono hM hN h4]; exact e
        | none => rw [h4] at e; cases e
theorem am_run_step {q : Nat × List Value × List Value × am_H} (hc : am_code M pc = some i) (hr : am_R M i st = none) (hs : am_stp M N i pc ls st h = some q) : am_run M N (n + 1) pc ls st h = am_run M N n q.1 q.2.1 q.2.2.1 q.2.2.2 := by
  rw [am_run, hc]
  dsimp only
  rw [hr]
  dsimp only
  rw [hs]
theorem am_run_ret {r : Option Value} (hc : am_code M pc = some i) (hr : am_R M i st = some r) : am_run M N (n + 1) pc ls st h = some (r, h) := by
  rw [am_run, hc]
  dsimp only
  rw [hr]
theorem am_run_no (hc : am_code M pc = some i) (hr : am_R M i st = none) (hs : am_stp M N i pc ls st h = none) : am_run M N (n + 1) pc ls st h = none := by
  rw [am_run, hc]
  dsimp only
  rw [hr]
  dsimp only
  rw [hs]
theorem am_run_mono (hM : am_ok M) : ∀ (n n' N N' pc : Nat) (ls st : List Value) (h : am_H) (x : Option Value × am_H), N ≤ N' → n ≤ n' → am_run M N n pc ls st h = some x → am_run M N' n' pc ls st h = some x
  | 0, _, _, _, _, _, _, _, _, _, _, e => by cases e
  | n + 1, n', N, N', pc, ls, st, h, x, hN, hn, e => by
    obtain ⟨k, rfl⟩ : ∃ k, n' = k + 1 := ⟨n' - 1, by omega⟩
    cases hc : am_code M pc with
    | none => rw [am_run, hc] at e; cases e
    | some i =>
      cases hr : am_R M i st with
      | some r =>
        rw [am_run_ret hc hr] at e
        rw [am_run_ret hc hr]
        exact e
      | none =>
        cases hs : am_stp M N i pc ls st h with
        | none => rw [am_run_no hc hr hs] at e; cases e
        | some q =>
          rw [am_run_step hc hr hs] at e
          rw [am_run_step hc hr (am_stp_mono hM hN hs)]
          exact am_run_mono hM n k N N' _ _ _ _ x hN (by omega) e
theorem am_fn_mono (hM : am_ok M) : am_mono (am_fn M) := fun N N' as h x hN e => am_run_mono hM N N' N N' 0 as [] h x hN hN e
theorem am_C_fn {as : List Value} : am_C (am_fn M) as h Q ↔ am_W M 0 as [] h Q := Iff.rfl
theorem am_C_iff {f : am_F} {as : List Value} {r : Option Value} {h' : am_H} (hf : am_mono f) (e : am_C f as h (fun r1 h1 => r1 = r ∧ h1 = h')) : am_C f as h Q ↔ Q r h' := by
  obtain ⟨N, r1, h1, e, rfl, rfl⟩ := e
  constructor
  · rintro ⟨N2, r2, h2, e2, hQ⟩
    have a1 := hf N (max N N2) as h _ (Nat.le_max_left _ _) e
    have a2 := hf N2 (max N N2) as h _ (Nat.le_max_right _ _) e2
    rw [a1] at a2
    cases a2
    exact hQ
  · intro hQ
    exact ⟨N, r1, h1, e, hQ⟩
theorem am_C_weak {f : am_F} {as : List Value} {Q' : Option Value → am_H → Prop} (e : am_C f as h Q) (hq : ∀ r h', Q r h' → Q' r h') : am_C f as h Q' := by
  obtain ⟨N, r, h', e, q⟩ := e
  exact ⟨N, r, h', e, hq _ _ q⟩
theorem am_W_weak {Q' : Option Value → am_H → Prop} (e : am_W M pc ls st h Q) (hq : ∀ r h', Q r h' → Q' r h') : am_W M pc ls st h Q' := by
  obtain ⟨N, r, h', e, q⟩ := e
  exact ⟨N, r, h', e, hq _ _ q⟩
theorem am_go {q : Nat × List Value × List Value × am_H} (hM : am_ok M) (hc : am_code M pc = some i) (hr : am_R M i st = none) (hs : ∀ N, am_stp M N i pc ls st h = some q) : am_W M pc ls st h Q ↔ am_W M q.1 q.2.1 q.2.2.1 q.2.2.2 Q := by
  constructor
  · rintro ⟨N, r, h', e, hQ⟩
    cases N with
    | zero => cases e
    | succ N =>
      rw [am_run_step hc hr (hs _)] at e
      exact ⟨N + 1, r, h', am_run_mono hM _ _ _ _ _ _ _ _ _ (Nat.le_refl _) (Nat.le_succ _) e, hQ⟩
  · rintro ⟨N, r, h', e, hQ⟩
    refine ⟨N + 1, r, h', ?_, hQ⟩
    rw [am_run_step hc hr (hs _)]
    exact am_run_mono hM _ _ _ _ _ _ _ _ _ (Nat.le_succ N) (Nat.le_refl N) e
theorem am_no (hc : am_code M pc = some i) (hr : am_R M i st = none) (hs : ∀ N, am_stp M N i pc ls st h = none) : am_W M pc ls st h Q ↔ False := by
  constructor
  · rintro ⟨N, r, h', e, hQ⟩
    cases N with
    | zero => cases e
    | succ N => rw [am_run_no hc hr (hs _)] at e; cases e
  · exact False.elim
theorem am_re {r : Option Value} (hc : am_code M pc = some i) (hr : am_R M i st = some r) : am_W M pc ls st h Q ↔ Q r h := by
  constructor
  · rintro ⟨N, r2, h', e, hQ⟩
    cases N with
    | zero => cases e
    | succ N =>
      rw [am_run_ret hc hr] at e
      cases e
      exact hQ
  · intro hQ
    exact ⟨1, r, h, am_run_ret hc hr, hQ⟩
theorem am_ite {c : Prop} [Decidable c] {a b : Nat} : am_W M (if c then a else b) ls st h Q ↔ (c → am_W M a ls st h Q) ∧ (¬ c → am_W M b ls st h Q) := by
  by_cases hc : c
  · rw [if_pos hc]
    exact ⟨fun q => ⟨fun _ => q, fun z => absurd hc z⟩, fun q => q.1 hc⟩
  · rw [if_neg hc]
    exact ⟨fun q => ⟨fun z => absurd z hc, fun _ => q⟩, fun q => q.2 hc⟩
theorem am_iret {v : Int32} (hc : am_code M pc = some .ireturn) (hr : am_ret M = 0) : am_W M pc ls [.int v] h Q ↔ Q (some (.int v)) h := am_re hc (by simp [am_R, hr])
theorem am_zret {v : Int32} (hc : am_code M pc = some .ireturn) (hr : am_ret M = 1) : am_W M pc ls [.int v] h Q ↔ (v = 0 ∨ v = 1) ∧ Q (some (.int v)) h := by
  by_cases hv : v = 0 ∨ v = 1
  · rw [am_re hc (r := some (.int v)) (by simp [am_R, hr, hv])]
    exact ⟨fun q => ⟨hv, q⟩, fun q => q.2⟩
  · rw [am_no hc (by simp [am_R, hr, hv]) (fun _ => rfl)]
    exact ⟨False.elim, fun q => hv q.1⟩
theorem am_vret (hc : am_code M pc = some .return_) (hr : am_ret M = 2) : am_W M pc ls [] h Q ↔ Q none h := am_re hc (by simp [am_R, hr])
theorem am_aret {a : Nat} (hc : am_code M pc = some .areturn) (hr : am_ret M = 3) : am_W M pc ls [.ref a] h Q ↔ Q (some (.ref a)) h := am_re hc (by simp [am_R, hr])
theorem am_getf {a ci k kd : Nat} (hM : am_ok M) (hc : am_code M pc = some (.getfield x)) (hf : am_fld M x = some (ci, k, kd)) : am_W M pc ls (.ref a :: st) h Q ↔ am_ob (am_gf h a ci k) (fun v => am_W M (pc + 3) ls (v :: st) h Q) := by
  cases hg : am_gf h a ci k with
  | some v => exact am_go (q := (pc + 3, ls, v :: st, h)) hM hc rfl (fun _ => by simp [am_stp, am_P, am_J, am_X, am_gfF, hf, hg, am_len])
  | none => exact am_no hc rfl (fun _ => by simp [am_stp, am_P, am_J, am_X, am_Y, am_gfF, hf, hg])
theorem am_putf {v : Value} {a ci k kd : Nat} (hM : am_ok M) (hc : am_code M pc = some (.putfield x)) (hf : am_fld M x = some (ci, k, kd)) : am_W M pc ls (v :: .ref a :: st) h Q ↔ am_ob (am_pf h a ci k kd v) (fun h' => am_W M (pc + 3) ls st h' Q) := by
  cases hg : am_pf h a ci k kd v with
  | some h' => exact am_go (q := (pc + 3, ls, st, h')) hM hc rfl (fun _ => by simp [am_stp, am_P, am_J, am_X, am_pfF, hf, hg, am_len])
  | none => exact am_no hc rfl (fun _ => by simp [am_stp, am_P, am_J, am_X, am_Y, am_pfF, hf, hg])
theorem am_iald {y : Int32} {a : Nat} (hM : am_ok M) (hc : am_code M pc = some .iaload) : am_W M pc ls (.int y :: .ref a :: st) h Q ↔ am_ob (am_ld h 0 a y) (fun v => am_W M (pc + 1) ls (.int v :: st) h Q) := by
  cases hg : am_ld h 0 a y with
  | some v => exact am_go (q := (pc + 1, ls, .int v :: st, h)) hM hc rfl (fun _ => by simp [am_stp, am_P, am_J, am_X, am_ldF, hg, am_len])
  | none => exact am_no hc rfl (fun _ => by simp [am_stp, am_P, am_J, am_X, am_Y, am_ldF, hg])
theorem am_zald {y : Int32} {a : Nat} (hM : am_ok M) (hc : am_code M pc = some .baload) : am_W M pc ls (.int y :: .ref a :: st) h Q ↔ am_ob (am_ld h 1 a y) (fun v => am_W M (pc + 1) ls (.int v :: st) h Q) := by
  cases hg : am_ld h 1 a y with
  | some v => exact am_go (q := (pc + 1, ls, .int v :: st, h)) hM hc rfl (fun _ => by simp [am_stp, am_P, am_J, am_X, am_ldF, hg, am_len])
  | none => exact am_no hc rfl (fun _ => by simp [am_stp, am_P, am_J, am_X, am_Y, am_ldF, hg])
theorem am_sald {y : Int32} {a : Nat} (hM : am_ok M) (hc : am_code M pc = some .iaload) : am_W M pc ls (.int y :: .retAddr a :: st) h Q ↔ am_ob (am_sld M y) (fun v => am_W M (pc + 1) ls (.int v :: st) h Q) := by
  cases hg : am_sld M y with
  | some v => exact am_go (q := (pc + 1, ls, .int v :: st, h)) hM hc rfl (fun _ => by simp [am_stp, am_P, am_J, am_X, am_ldF, hg, am_len])
  | none => exact am_no hc rfl (fun _ => by simp [am_stp, am_P, am_J, am_X, am_Y, am_ldF, hg])
theorem am_iast {v y : Int32} {a : Nat} (hM : am_ok M) (hc : am_code M pc = some .iastore) : am_W M pc ls (.int v :: .int y :: .ref a :: st) h Q ↔ am_ob (am_sd h 0 a y v) (fun h' => am_W M (pc + 1) ls st h' Q) := by
  cases hg : am_sd h 0 a y v with
  | some h' => exact am_go (q := (pc + 1, ls, st, h')) hM hc rfl (fun _ => by simp [am_stp, am_P, am_J, am_X, am_sdF, hg, am_len])
  | none => exact am_no hc rfl (fun _ => by simp [am_stp, am_P, am_J, am_X, am_Y, am_sdF, hg])
theorem am_zast {v y : Int32} {a : Nat} (hM : am_ok M) (hc : am_code M pc = some .bastore) : am_W M pc ls (.int v :: .int y :: .ref a :: st) h Q ↔ am_ob (am_sd h 1 a y v) (fun h' => am_W M (pc + 1) ls st h' Q) := by
  cases hg : am_sd h 1 a y v with
  | some h' => exact am_go (q := (pc + 1, ls, st, h')) hM hc rfl (fun _ => by simp [am_stp, am_P, am_J, am_X, am_sdF, hg, am_len])
  | none => exact am_no hc rfl (fun _ => by simp [am_stp, am_P, am_J, am_X, am_Y, am_sdF, hg])
theorem am_aald {y : Int32} {a : Nat} (hM : am_ok M) (hc : am_code M pc = some .aaload) : am_W M pc ls (.int y :: .ref a :: st) h Q ↔ am_ob (am_la h a y) (fun v => am_W M (pc + 1) ls (.ref v :: st) h Q) := by
  cases hg : am_la h a y with
  | some v => exact am_go (q := (pc + 1, ls, .ref v :: st, h)) hM hc rfl (fun _ => by simp [am_stp, am_P, am_J, am_X, am_laF, hg, am_len])
  | none => exact am_no hc rfl (fun _ => by simp [am_stp, am_P, am_J, am_X, am_Y, am_laF, hg])
theorem am_slen {L : Nat} {f : Nat → Int32} {a : Nat} (hM : am_ok M) (hc : am_code M pc = some .arraylength) (hs : am_scr M = some (L, f)) : am_W M pc ls (.retAddr a :: st) h Q ↔ am_W M (pc + 1) ls (.int (Int32.ofNat L) :: st) h Q := by
  exact am_go (q := (pc + 1, ls, .int (Int32.ofNat L) :: st, h)) hM hc rfl (fun _ => by simp [am_stp, am_P, am_J, am_X, am_alF, hs, am_len])
theorem am_ca {f : am_F} {na : Nat} {rc : Option Nat} (hM : am_ok M) (hc : am_code M pc = some i) (hi : i = .invokevirtual x ∨ i = .invokespecial x ∨ i = .invokestatic x) (hq : am_cal M x = some (na, rc, f)) (as rest : List Value) (hn : as.length = na) :
    am_W M pc ls (as.reverse ++ rest) h Q ↔ (rest.length ≤ 8 ∧ am_rc h as rc = true) ∧ am_C f as h (fun r h' => am_W M (pc + 3) ls (r.toList ++ rest) h' Q) := by
  subst hn
  have hr : am_R M i (as.reverse ++ rest) = none := by rcases hi with rfl | rfl | rfl <;> rfl
  have hs : ∀ N, am_stp M N i pc ls (as.reverse ++ rest) h = match am_callF M N x (as.reverse ++ rest) h with
      | some q => some (pc + 3, ls, q.1, q.2)
      | none => none := by
    intro N
    rcases hi with rfl | rfl | rfl <;> rfl
  have hk : ∀ N, am_callF M N x (as.reverse ++ rest) h = if 8 < rest.length ∨ am_rc h as rc = false then none else (match f N as h with
      | some z => some (z.1.toList ++ rest, z.2)
      | none => none) := by
    intro N
    unfold am_callF
    rw [hq]
    dsimp only
    have e1 : (as.reverse ++ rest).length = as.length + rest.length := by simp
    have e2 : (as.reverse ++ rest).take as.length = as.reverse := by
      rw [← List.length_reverse (as := as), List.take_left]
    have e3 : (as.reverse ++ rest).drop as.length = rest := by
      rw [← List.length_reverse (as := as), List.drop_left]
    rw [e1, e2, e3, List.reverse_reverse, Nat.add_sub_cancel_left]
    by_cases h8 : 8 < rest.length ∨ am_rc h as rc = false
    · rw [if_pos (by rcases h8 with h8 | h8; exact Or.inl (Or.inr h8); exact Or.inr h8), if_pos h8]
    · rw [if_neg (by intro q; rcases q with (q | q) | q; omega; exact h8 (Or.inl q); exact h8 (Or.inr q)), if_neg h8]
      rfl
  by_cases h8 : 8 < rest.length ∨ am_rc h as rc = false
  · refine (am_no hc hr (fun N => ?_)).trans ⟨False.elim, fun q => ?_⟩
    · rw [hs, hk, if_pos h8]
    · obtain ⟨⟨q1, q2⟩, -⟩ := q
      rcases h8 with h8 | h8
      · omega
      · rw [q2] at h8; cases h8
  · constructor
    · rintro ⟨N, r, h', e, hQ⟩
      have h9 : am_rc h as rc = true := by
        cases hz : am_rc h as rc with
        | true => rfl
        | false => exact absurd (Or.inr hz) h8
      refine ⟨⟨Nat.not_lt.mp (fun q => h8 (Or.inl q)), h9⟩, ?_⟩
      cases N with
      | zero => cases e
      | succ N =>
        cases hf : f (N + 1) as h with
        | none =>
          rw [am_run_no hc hr (by rw [hs, hk, if_neg h8, hf])] at e
          cases e
        | some z =>
          rw [am_run_step (q := (pc + 3, ls, z.1.toList ++ rest, z.2)) hc hr (by rw [hs, hk, if_neg h8, hf])] at e
          exact ⟨N + 1, z.1, z.2, hf, N + 1, r, h', am_run_mono hM _ _ _ _ _ _ _ _ _ (Nat.le_refl _) (Nat.le_succ _) e, hQ⟩
    · rintro ⟨-, N1, r1, h1, e1, N2, r, h', e, hQ⟩
      refine ⟨max N1 N2 + 1, r, h', ?_, hQ⟩
      have hf : f (max N1 N2 + 1) as h = some (r1, h1) := hM x _ hq N1 (max N1 N2 + 1) as h _ (by omega) e1
      rw [am_run_step (q := (pc + 3, ls, r1.toList ++ rest, h1)) hc hr (by rw [hs, hk, if_neg h8, hf])]
      exact am_run_mono hM _ _ _ _ _ _ _ _ _ (by omega) (by omega) e
end AW
end
section
/-! The small machine against the kit's machine, first half: stack, jumps. -/
def am_rn (al : Nat → Nat) (sb : Nat) : Value → Value
  | .ref i => .ref (al i)
  | .retAddr _ => .ref sb
  | v => v
def am_vw (n : Nat) : Value → Prop
  | .ref j => j < n
  | .int _ => True
  | .null => True
  | .retAddr _ => True
  | _ => False
theorem am_vw_cat {n : Nat} {v : Value} (al : Nat → Nat) (sb : Nat) (h : am_vw n v) : (am_rn al sb v).category = 1 := by
  cases v <;> first | rfl | exact False.elim h
theorem am_vw_up {n n' : Nat} {v : Value} (hn : n ≤ n') (h : am_vw n v) : am_vw n' v := by
  cases v <;> first | exact h | exact Nat.lt_of_lt_of_le h hn
theorem am_rn_eq {al al' : Nat → Nat} {sb n : Nat} {v : Value} (h : am_vw n v) (ha : ∀ i, i < n → al' i = al i) : am_rn al' sb v = am_rn al sb v := by
  cases v <;> first | rfl | exact congrArg Value.ref (ha _ h)
theorem am_rn_map {al al' : Nat → Nat} {sb n : Nat} {vs : List Value} (h : ∀ v ∈ vs, am_vw n v) (ha : ∀ i, i < n → al' i = al i) : vs.map (am_rn al' sb) = vs.map (am_rn al sb) :=
  List.map_congr_left fun v hv => am_rn_eq (h v hv) ha
def am_L (al : Nat → Nat) (sb n nL : Nat) (ls : List Value) (lk : Array Slot) : Prop := lk.size = nL ∧ lv_wf lk ∧ ∀ (k : Nat) (v : Value), ls[k]? = some v → lk[k]? = some (.val (am_rn al sb v)) ∧ am_vw n v
def am_prs (al : Nat → Nat) (sb : Nat) (ls : List Value) : List (Nat × Value) := ls.mapIdx (fun k v => (k, am_rn al sb v))
theorem am_prs_mem {al : Nat → Nat} {sb : Nat} {ls : List Value} {q : Nat × Value} : q ∈ am_prs al sb ls ↔ ∃ (k : Nat) (v : Value), ls[k]? = some v ∧ q = (k, am_rn al sb v) := by
  unfold am_prs
  rw [List.mem_mapIdx]
  constructor
  · rintro ⟨i, hi, rfl⟩
    exact ⟨i, ls[i], List.getElem?_eq_getElem hi, rfl⟩
  · rintro ⟨k, v, hk, rfl⟩
    obtain ⟨hi, e⟩ := List.getElem?_eq_some_iff.mp hk
    exact ⟨k, hi, by rw [e]⟩
theorem am_L_has {al : Nat → Nat} {sb n nL : Nat} {ls : List Value} {lk : Array Slot} (hL : am_L al sb n nL ls lk) : lv_has lk nL (am_prs al sb ls) :=
  ⟨hL.1, hL.2.1, fun q hq => by
    obtain ⟨k, v, hk, rfl⟩ := am_prs_mem.mp hq
    exact (hL.2.2 k v hk).1⟩
theorem am_L_up {al al' : Nat → Nat} {sb n n' nL : Nat} {ls : List Value} {lk : Array Slot} (hL : am_L al sb n nL ls lk) (hn : n ≤ n') (ha : ∀ i, i < n → al' i = al i) : am_L al' sb n' nL ls lk :=
  ⟨hL.1, hL.2.1, fun k v hk => ⟨by rw [am_rn_eq (hL.2.2 k v hk).2 ha]; exact (hL.2.2 k v hk).1, am_vw_up hn (hL.2.2 k v hk).2⟩⟩
theorem am_lst_get (v w : Value) : ∀ (i : Nat) (ls : List Value) (k : Nat), (am_lst v i ls)[k]? = some w → (k = i ∧ w = v) ∨ (k ≠ i ∧ ls[k]? = some w)
  | 0, l, k, h => by
    cases k with
    | zero =>
      have h : some v = some w := h
      exact Or.inl ⟨rfl, (Option.some.inj h).symm⟩
    | succ k =>
      have h : l.tail[k]? = some w := h
      refine Or.inr ⟨by omega, ?_⟩
      cases l with
      | nil => cases h
      | cons a l => exact h
  | i + 1, [], k, h => by cases h
  | i + 1, x :: r, k, h => by
    cases k with
    | zero => exact Or.inr ⟨by omega, h⟩
    | succ k =>
      rcases am_lst_get v w i r k h with ⟨h1, h2⟩ | ⟨h1, h2⟩
      · exact Or.inl ⟨by omega, h2⟩
      · exact Or.inr ⟨by omega, h2⟩
theorem am_L_store {al : Nat → Nat} {sb n nL i : Nat} {v : Value} {ls : List Value} {lk lk' : Array Slot} (hL : am_L al sb n nL ls lk) (hv : am_vw n v)
    (h : lv_has lk' nL ((i, am_rn al sb v) :: (am_prs al sb ls).filter (fun q => !(q.1 == i) && !(q.1 + 1 == i && q.2.category == 2)))) : am_L al sb n nL (am_lst v i ls) lk' := by
  refine ⟨h.1, h.2.1, fun k w hk => ?_⟩
  rcases am_lst_get _ _ _ _ _ hk with ⟨rfl, rfl⟩ | ⟨hne, hk⟩
  · exact ⟨h.2.2 _ List.mem_cons_self, hv⟩
  · have hw := (hL.2.2 k w hk).2
    refine ⟨h.2.2 (k, am_rn al sb w) (List.mem_cons_of_mem _ (List.mem_filter.mpr ⟨am_prs_mem.mpr ⟨k, w, hk, rfl⟩, ?_⟩)), hw⟩
    simp [hne, am_vw_cat al sb hw]
/-- bounds that a program decides -/
def am_bd (nL pc : Nat) (i : Instr) : Bool := match i with
  | .istore k => decide (k < nL)
  | .astore k => decide (k < nL)
  | .istore_n k => decide ((k : Nat) < nL)
  | .astore_n k => decide ((k : Nat) < nL)
  | .iinc k _ => decide (k < nL)
  | .goto off => decide (0 ≤ (pc : Int) + off)
  | .ifCond _ off => decide (0 ≤ (pc : Int) + off)
  | .if_icmp _ off => decide (0 ≤ (pc : Int) + off)
  | .tableswitch d lo hi offs => decide (0 ≤ (pc : Int) + d) && (decide (hi - lo + 1 = (offs.size : Int)) && offs.toList.all (fun o => decide (0 ≤ (pc : Int) + o)))
  | .lookupswitch d ps => decide (0 ≤ (pc : Int) + d) && ((ps.toList.zip (ps.toList.drop 1)).all (fun (a, next) => a.1 < next.1) && ps.toList.all (fun q => decide (0 ≤ (pc : Int) + q.2)))
  | _ => true
theorem am_b2_some {f : Int32 → Int32 → Int32} {ls st : List Value} {q : List Value × List Value} (e : am_b2 f ls st = some q) : ∃ x y r, st = .int y :: .int x :: r ∧ q = (ls, .int (f x y) :: r) := by
  unfold am_b2 at e
  split at e
  · exact ⟨_, _, _, rfl, (Option.some.inj e).symm⟩
  · cases e
theorem am_ildF_some {k : Nat} {ls st : List Value} {q : List Value × List Value} (e : am_ildF ls st k = some q) : ∃ x, ls[k]? = some (.int x) ∧ q = (ls, .int x :: st) := by
  unfold am_ildF at e
  split at e
  · rename_i x hx
    exact ⟨x, hx, (Option.some.inj e).symm⟩
  · cases e
theorem am_aldF_some {k : Nat} {ls st : List Value} {q : List Value × List Value} (e : am_aldF ls st k = some q) : ∃ v, ls[k]? = some v ∧ (∀ (al : Nat → Nat) (sb : Nat), ∃ a, am_rn al sb v = .ref a) ∧ q = (ls, v :: st) := by
  unfold am_aldF at e
  split at e
  · rename_i x hx
    exact ⟨_, hx, fun al sb => ⟨_, rfl⟩, (Option.some.inj e).symm⟩
  · rename_i x hx
    exact ⟨_, hx, fun al sb => ⟨_, rfl⟩, (Option.some.inj e).symm⟩
  · cases e
theorem am_istF_some {k : Nat} {ls st : List Value} {q : List Value × List Value} (e : am_istF ls st k = some q) : ∃ x r, st = .int x :: r ∧ q = (am_lst (.int x) k ls, r) := by
  unfold am_istF at e
  split at e
  · exact ⟨_, _, rfl, (Option.some.inj e).symm⟩
  · cases e
theorem am_astF_some {k : Nat} {ls st : List Value} {q : List Value × List Value} (e : am_astF ls st k = some q) : ∃ x r, st = .ref x :: r ∧ q = (am_lst (.ref x) k ls, r) := by
  unfold am_astF at e
  split at e
  · exact ⟨_, _, rfl, (Option.some.inj e).symm⟩
  · cases e
theorem am_incF_some {k : Nat} {n : Int} {ls st : List Value} {q : List Value × List Value} (e : am_incF ls st k n = some q) : ∃ x, ls[k]? = some (.int x) ∧ q = (am_lst (.int (x + Int32.ofInt n)) k ls, st) := by
  unfold am_incF at e
  split at e
  · rename_i x hx
    exact ⟨x, hx, (Option.some.inj e).symm⟩
  · cases e
theorem am_remF_some {ls st : List Value} {q : List Value × List Value} (e : am_remF ls st = some q) : ∃ x y r, st = .int y :: .int x :: r ∧ ¬ y = 0 ∧ q = (ls, .int (x - x / y * y) :: r) := by
  unfold am_remF at e
  split at e
  · split at e
    · cases e
    · rename_i h
      exact ⟨_, _, _, rfl, h, (Option.some.inj e).symm⟩
  · cases e
theorem am_dupF_some {ls st : List Value} {q : List Value × List Value} (e : am_dupF ls st = some q) : ∃ a r, st = a :: r ∧ q = (ls, a :: a :: r) := by
  unfold am_dupF at e
  split at e
  · split at e
    · exact ⟨_, _, rfl, (Option.some.inj e).symm⟩
    · cases e
  · cases e
theorem am_popF_some {ls st : List Value} {q : List Value × List Value} (e : am_popF ls st = some q) : ∃ a r, st = a :: r ∧ q = (ls, r) := by
  unfold am_popF at e
  split at e
  · split at e
    · exact ⟨_, _, rfl, (Option.some.inj e).symm⟩
    · cases e
  · cases e
theorem am_dx1F_some {ls st : List Value} {q : List Value × List Value} (e : am_dx1F ls st = some q) : ∃ a b r, st = a :: b :: r ∧ q = (ls, a :: b :: a :: r) := by
  unfold am_dx1F at e
  split at e
  · split at e
    · exact ⟨_, _, _, rfl, (Option.some.inj e).symm⟩
    · cases e
  · cases e
theorem am_dx2F_some {ls st : List Value} {q : List Value × List Value} (e : am_dx2F ls st = some q) : ∃ a b d r, st = a :: b :: d :: r ∧ q = (ls, a :: b :: d :: a :: r) := by
  unfold am_dx2F at e
  split at e
  · split at e
    · exact ⟨_, _, _, _, rfl, (Option.some.inj e).symm⟩
    · cases e
  · cases e
theorem am_d2F_some {ls st : List Value} {q : List Value × List Value} (e : am_d2F ls st = some q) : ∃ a b r, st = a :: b :: r ∧ q = (ls, a :: b :: a :: b :: r) := by
  unfold am_d2F at e
  split at e
  · split at e
    · exact ⟨_, _, _, rfl, (Option.some.inj e).symm⟩
    · cases e
  · cases e
theorem am_fa {P : Value → Prop} {a : Value} {l : List Value} (ha : P a) (hl : ∀ v ∈ l, P v) : ∀ v ∈ a :: l, P v := List.forall_mem_cons.mpr ⟨ha, hl⟩
section AMP
variable {p : Program} {l : Launch} {e : Env} {R : Room} {s : State} {m : MethodId} {args : Array Value} {below : List Frame} {meth : Method} {c : Code} {H : Heap} {locs : List Loc} {cells slots : Nat} {Q : State → Prop}
variable {cc : ByteArray} {pc : Nat} {lk : Array Slot} {ls ls' st st' : List Value} {al : Nat → Nat} {sb n nL : Nat} {i : Instr}
theorem am_simP (hx : p.tables.exec = Jvm.exec) (hb : c.code = cc) (hd : decode cc pc = .ok (i, am_len i)) (hbd : am_bd nL pc i = true) (he : am_P i ls st = some (ls', st')) (hL : am_L al sb n nL ls lk) (hs : ∀ v ∈ st, am_vw n v)
    (kk : ∀ lk' : Array Slot, am_L al sb n nL ls' lk' → (∀ v ∈ st', am_vw n v) → W p l e R s m args below meth c H locs cells slots Q (F0 m (pc + am_len i) lk' (st'.map (am_rn al sb)))) : W p l e R s m args below meth c H locs cells slots Q (F0 m pc lk (st.map (am_rn al sb))) := by
  cases i with
  | iconst k =>
    have he : some (ls, Value.int (Int32.ofInt k) :: st) = some (ls', st') := he
    cases he
    exact lv_iconst hx hb hd rfl (kk lk hL (am_fa trivial hs))
  | bipush k =>
    have he : some (ls, Value.int (Int8.ofInt k).toInt32 :: st) = some (ls', st') := he
    cases he
    exact lv_bipush hx hb hd rfl (kk lk hL (am_fa trivial hs))
  | sipush k =>
    have he : some (ls, Value.int (Int16.ofInt k).toInt32 :: st) = some (ls', st') := he
    cases he
    exact lv_sipush hx hb hd rfl (kk lk hL (am_fa trivial hs))
  | iload_n k =>
    obtain ⟨x, h1, h2⟩ := am_ildF_some he
    cases h2
    exact lv_iload_n hx hb hd rfl (hL.2.2 _ _ h1).1 (kk lk hL (am_fa trivial hs))
  | iload k =>
    obtain ⟨x, h1, h2⟩ := am_ildF_some he
    cases h2
    exact lv_iload hx hb hd (hL.2.2 _ _ h1).1 (kk lk hL (am_fa trivial hs))
  | aload_n k =>
    obtain ⟨v, h1, h3, h2⟩ := am_aldF_some he
    cases h2
    obtain ⟨a, ha⟩ := h3 al sb
    have h4 := hL.2.2 _ _ h1
    have kk := kk lk hL (am_fa h4.2 hs)
    rw [List.map_cons, ha] at kk
    exact lv_aload_n hx hb hd rfl (by rw [h4.1, ha]) kk
  | aload k =>
    obtain ⟨v, h1, h3, h2⟩ := am_aldF_some he
    cases h2
    obtain ⟨a, ha⟩ := h3 al sb
    have h4 := hL.2.2 _ _ h1
    have kk := kk lk hL (am_fa h4.2 hs)
    rw [List.map_cons, ha] at kk
    exact lv_aload hx hb hd (by rw [h4.1, ha]) kk
  | istore_n k =>
    obtain ⟨x, r, rfl, h2⟩ := am_istF_some he
    cases h2
    exact lv_istore_n hx hb hd rfl (am_L_has hL) (of_decide_eq_true hbd) rfl (fun lk' h => kk lk' (am_L_store hL trivial h) (List.forall_mem_cons.mp hs).2)
  | istore k =>
    obtain ⟨x, r, rfl, h2⟩ := am_istF_some he
    cases h2
    exact lv_istore hx hb hd (am_L_has hL) (of_decide_eq_true hbd) rfl (fun lk' h => kk lk' (am_L_store hL trivial h) (List.forall_mem_cons.mp hs).2)
  | astore_n k =>
    obtain ⟨x, r, rfl, h2⟩ := am_astF_some he
    cases h2
    exact lv_astore_n hx hb hd rfl (am_L_has hL) (of_decide_eq_true hbd) rfl (fun lk' h => kk lk' (am_L_store (v := .ref x) hL (List.forall_mem_cons.mp hs).1 h) (List.forall_mem_cons.mp hs).2)
  | astore k =>
    obtain ⟨x, r, rfl, h2⟩ := am_astF_some he
    cases h2
    exact lv_astore hx hb hd (am_L_has hL) (of_decide_eq_true hbd) rfl (fun lk' h => kk lk' (am_L_store (v := .ref x) hL (List.forall_mem_cons.mp hs).1 h) (List.forall_mem_cons.mp hs).2)
  | iinc k z =>
    obtain ⟨x, h1, h2⟩ := am_incF_some he
    cases h2
    have h3 : (am_prs al sb ls)[k]? = some (k, .int x) := by
      unfold am_prs
      rw [List.getElem?_mapIdx, h1]
      rfl
    exact lv_iinc hx hb hd (am_L_has hL) h3 rfl (of_decide_eq_true hbd) rfl (fun lk' h => kk lk' (am_L_store (v := .int (x + Int32.ofInt z)) hL trivial h) hs)
  | iadd =>
    obtain ⟨x, y, r, rfl, h2⟩ := am_b2_some he
    cases h2
    exact lv_iadd hx hb hd (kk lk hL (am_fa trivial (List.forall_mem_cons.mp (List.forall_mem_cons.mp hs).2).2))
  | isub =>
    obtain ⟨x, y, r, rfl, h2⟩ := am_b2_some he
    cases h2
    exact lv_isub hx hb hd (kk lk hL (am_fa trivial (List.forall_mem_cons.mp (List.forall_mem_cons.mp hs).2).2))
  | imul =>
    obtain ⟨x, y, r, rfl, h2⟩ := am_b2_some he
    cases h2
    exact lv_imul hx hb hd (kk lk hL (am_fa trivial (List.forall_mem_cons.mp (List.forall_mem_cons.mp hs).2).2))
  | iand =>
    obtain ⟨x, y, r, rfl, h2⟩ := am_b2_some he
    cases h2
    exact lv_iand hx hb hd (kk lk hL (am_fa trivial (List.forall_mem_cons.mp (List.forall_mem_cons.mp hs).2).2))
  | ior =>
    obtain ⟨x, y, r, rfl, h2⟩ := am_b2_some he
    cases h2
    exact lv_ior hx hb hd (kk lk hL (am_fa trivial (List.forall_mem_cons.mp (List.forall_mem_cons.mp hs).2).2))
  | ixor =>
    obtain ⟨x, y, r, rfl, h2⟩ := am_b2_some he
    cases h2
    exact lv_ixor hx hb hd (kk lk hL (am_fa trivial (List.forall_mem_cons.mp (List.forall_mem_cons.mp hs).2).2))
  | ishl =>
    obtain ⟨x, y, r, rfl, h2⟩ := am_b2_some he
    cases h2
    exact lv_ishl hx hb hd (kk lk hL (am_fa trivial (List.forall_mem_cons.mp (List.forall_mem_cons.mp hs).2).2))
  | ishr =>
    obtain ⟨x, y, r, rfl, h2⟩ := am_b2_some he
    cases h2
    exact lv_ishr hx hb hd (kk lk hL (am_fa trivial (List.forall_mem_cons.mp (List.forall_mem_cons.mp hs).2).2))
  | irem =>
    obtain ⟨x, y, r, rfl, h3, h2⟩ := am_remF_some he
    cases h2
    exact lv_irem hx hb hd h3 (kk lk hL (am_fa trivial (List.forall_mem_cons.mp (List.forall_mem_cons.mp hs).2).2))
  | dup =>
    obtain ⟨a, r, rfl, h2⟩ := am_dupF_some he
    cases h2
    have h1 := List.forall_mem_cons.mp hs
    exact lv_dup hx hb hd (am_vw_cat al sb h1.1) (kk lk hL (am_fa h1.1 hs))
  | pop =>
    obtain ⟨a, r, rfl, h2⟩ := am_popF_some he
    cases h2
    have h1 := List.forall_mem_cons.mp hs
    exact lv_pop hx hb hd (am_vw_cat al sb h1.1) (kk lk hL h1.2)
  | dup_x1 =>
    obtain ⟨a, b, r, rfl, h2⟩ := am_dx1F_some he
    cases h2
    have h1 := List.forall_mem_cons.mp hs
    have h3 := List.forall_mem_cons.mp h1.2
    exact lv_dup_x1 hx hb hd (am_vw_cat al sb h1.1) (am_vw_cat al sb h3.1) (kk lk hL (am_fa h1.1 (am_fa h3.1 (am_fa h1.1 h3.2))))
  | dup_x2 =>
    obtain ⟨a, b, d, r, rfl, h2⟩ := am_dx2F_some he
    cases h2
    have h1 := List.forall_mem_cons.mp hs
    have h3 := List.forall_mem_cons.mp h1.2
    have h4 := List.forall_mem_cons.mp h3.2
    exact lv_dup_x2 hx hb hd (am_vw_cat al sb h1.1) (am_vw_cat al sb h3.1) (am_vw_cat al sb h4.1) (kk lk hL (am_fa h1.1 (am_fa h3.1 (am_fa h4.1 (am_fa h1.1 h4.2)))))
  | dup2 =>
    obtain ⟨a, b, r, rfl, h2⟩ := am_d2F_some he
    cases h2
    have h1 := List.forall_mem_cons.mp hs
    have h3 := List.forall_mem_cons.mp h1.2
    exact lv_dup2_11 hx hb hd (am_vw_cat al sb h1.1) (am_vw_cat al sb h3.1) (kk lk hL (am_fa h1.1 (am_fa h3.1 hs)))
  | _ => cases he
theorem am_J1 {q : Nat × List Value} {f : Int32 → Nat} (he : (match st with
    | .int x :: r => some (f x, r)
    | _ => none) = some q) : ∃ x r, st = .int x :: r ∧ q = (f x, r) := by
  split at he
  · exact ⟨_, _, rfl, (Option.some.inj he).symm⟩
  · cases he
theorem am_J2 {q : Nat × List Value} {f : Int32 → Int32 → Nat} (he : (match st with
    | .int y :: .int x :: r => some (f x y, r)
    | _ => none) = some q) : ∃ x y r, st = .int y :: .int x :: r ∧ q = (f x y, r) := by
  split at he
  · exact ⟨_, _, _, rfl, (Option.some.inj he).symm⟩
  · cases he
theorem am_lsw_pos {pc : Nat} {d k : Int} (hd : 0 ≤ (pc : Int) + d) : ∀ (ps : List (Int × Int)), ps.all (fun q => decide (0 ≤ (pc : Int) + q.2)) = true → 0 ≤ (pc : Int) + Op.lookupswitch.offset ps d k
  | [], _ => by rw [Op.lookupswitch.offset_nil]; exact hd
  | (a, o) :: r, h => by
    rw [List.all_cons, Bool.and_eq_true] at h
    rw [Op.lookupswitch.offset_cons]
    split
    · exact of_decide_eq_true h.1
    · exact am_lsw_pos hd r h.2
theorem am_simJ {len pc' : Nat} (hx : p.tables.exec = Jvm.exec) (hb : c.code = cc) (hd : decode cc pc = .ok (i, len)) (hlen : am_len i = 0 ∨ am_len i = len) (hbd : am_bd nL pc i = true) (he : am_J i pc st = some (pc', st')) (hs : ∀ v ∈ st, am_vw n v)
    (kk : (∀ v ∈ st', am_vw n v) → W p l e R s m args below meth c H locs cells slots Q (F0 m pc' lk (st'.map (am_rn al sb)))) : W p l e R s m args below meth c H locs cells slots Q (F0 m pc lk (st.map (am_rn al sb))) := by
  cases i with
  | goto off =>
    have he : some (am_jmp pc off, st) = some (pc', st') := he
    cases he
    have h3 : 3 = len := by rcases hlen with h | h; cases h; exact h
    subst h3
    exact lv_goto hx hb hd (Int.toNat_of_nonneg (of_decide_eq_true hbd)).symm (kk hs)
  | ifCond cd off =>
    obtain ⟨x, r, rfl, h2⟩ := am_J1 he
    cases h2
    have h3 : 3 = len := by rcases hlen with h | h; cases h; exact h
    subst h3
    have ht : (pc : Int) + off = ((am_jmp pc off : Nat) : Int) := (Int.toNat_of_nonneg (of_decide_eq_true hbd)).symm
    have kk := kk (List.forall_mem_cons.mp hs).2
    cases cd with
    | eq => exact lv_if_eq hx hb hd ht (fun q => by rw [am_if, if_pos q] at kk; exact kk) (fun q => by rw [am_if, if_neg q] at kk; exact kk)
    | ne => exact lv_if_ne hx hb hd ht (fun q => by rw [am_if, if_pos q] at kk; exact kk) (fun q => by rw [am_if, if_neg (fun z => z q)] at kk; exact kk)
    | lt => exact lv_if_lt hx hb hd ht (fun q => by rw [am_if, if_pos q] at kk; exact kk) (fun q => by rw [am_if, if_neg q] at kk; exact kk)
    | ge => exact lv_if_ge hx hb hd ht (fun q => by rw [am_if, if_pos q] at kk; exact kk) (fun q => by rw [am_if, if_neg q] at kk; exact kk)
    | gt => exact lv_if_gt hx hb hd ht (fun q => by rw [am_if, if_pos q] at kk; exact kk) (fun q => by rw [am_if, if_neg q] at kk; exact kk)
    | le => exact lv_if_le hx hb hd ht (fun q => by rw [am_if, if_pos q] at kk; exact kk) (fun q => by rw [am_if, if_neg q] at kk; exact kk)
  | if_icmp cd off =>
    obtain ⟨x, y, r, rfl, h2⟩ := am_J2 he
    cases h2
    have h3 : 3 = len := by rcases hlen with h | h; cases h; exact h
    subst h3
    have ht : (pc : Int) + off = ((am_jmp pc off : Nat) : Int) := (Int.toNat_of_nonneg (of_decide_eq_true hbd)).symm
    have kk := kk (List.forall_mem_cons.mp (List.forall_mem_cons.mp hs).2).2
    cases cd with
    | eq => exact lv_icmp_eq hx hb hd ht (fun q => by rw [am_if, if_pos q] at kk; exact kk) (fun q => by rw [am_if, if_neg q] at kk; exact kk)
    | ne => exact lv_icmp_ne hx hb hd ht (fun q => by rw [am_if, if_pos q] at kk; exact kk) (fun q => by rw [am_if, if_neg (fun z => z q)] at kk; exact kk)
    | lt => exact lv_icmp_lt hx hb hd ht (fun q => by rw [am_if, if_pos q] at kk; exact kk) (fun q => by rw [am_if, if_neg q] at kk; exact kk)
    | ge => exact lv_icmp_ge hx hb hd ht (fun q => by rw [am_if, if_pos q] at kk; exact kk) (fun q => by rw [am_if, if_neg q] at kk; exact kk)
    | gt => exact lv_icmp_gt hx hb hd ht (fun q => by rw [am_if, if_pos q] at kk; exact kk) (fun q => by rw [am_if, if_neg q] at kk; exact kk)
    | le => exact lv_icmp_le hx hb hd ht (fun q => by rw [am_if, if_pos q] at kk; exact kk) (fun q => by rw [am_if, if_neg q] at kk; exact kk)
  | tableswitch d lo hi offs =>
    obtain ⟨x, r, rfl, h2⟩ := am_J1 he
    cases h2
    have kk := kk (List.forall_mem_cons.mp hs).2
    unfold am_bd at hbd
    rw [Bool.and_eq_true, Bool.and_eq_true] at hbd
    obtain ⟨b1, b2, b3⟩ := hbd
    have b1 := of_decide_eq_true b1
    have b2 := of_decide_eq_true b2
    by_cases hc : x.toInt < lo ∨ hi < x.toInt
    · rw [am_tsw, if_pos hc] at kk
      exact lv_tableOut hx hb hd hc (Int.toNat_of_nonneg b1).symm kk
    · rw [am_tsw, if_neg hc] at kk
      have hlt : (x.toInt - lo).toNat < offs.size := by omega
      have ho : offs[(x.toInt - lo).toNat]? = some offs[(x.toInt - lo).toNat] := Array.getElem?_eq_getElem hlt
      rw [ho] at kk
      have hp : 0 ≤ (pc : Int) + offs[(x.toInt - lo).toNat] := of_decide_eq_true (List.all_eq_true.mp b3 _ (by simp))
      exact lv_tableIn hx hb hd (fun q => hc (Or.inl q)) (fun q => hc (Or.inr q)) ho (Int.toNat_of_nonneg hp).symm kk
  | lookupswitch d ps =>
    obtain ⟨x, r, rfl, h2⟩ := am_J1 he
    cases h2
    have kk := kk (List.forall_mem_cons.mp hs).2
    unfold am_bd at hbd
    rw [Bool.and_eq_true, Bool.and_eq_true] at hbd
    obtain ⟨b1, b2, b3⟩ := hbd
    have b1 := of_decide_eq_true b1
    exact lv_lookup hx hb hd b2 rfl (Int.toNat_of_nonneg (am_lsw_pos b1 _ b3)).symm kk
  | _ => cases he
end AMP
end
section
/-! The small machine's cells as the kit's world. -/
def am_fo (al : Nat → Nat) (x : Int32) : Option (Option Nat) → Value
  | none => .int x
  | some none => .null
  | some (some j) => .ref (al j)
def am_fv (al : Nat → Nat) (s : am_S) (i : Nat) (fl : List (Option (Option Nat))) : List Value := fl.mapIdx (fun k o => am_fo al (s i k) o)
def am_rf (al : Nat → Nat) (rs : List (Option Nat)) : Nat → Option Nat := fun j => ((rs[j]?).join).map al
def am_ex (cy : Nat → ClassId) (al : Nat → Nat) (s : am_S) (i : Nat) : am_D → va_E
  | .inl (t, n, none) => .inl (cy t, n, .inl (s i))
  | .inl (t, n, some rs) => .inl (cy t, n, .inr (.inr (.inr (.inr (am_rf al rs)))))
  | .inr (c, fl) => .inr (c, am_fv al s i fl)
def am_wl (cy : Nat → ClassId) (al : Nat → Nat) (h : am_H) : va_W := h.1.mapIdx (fun i d => (al i, am_ex cy al h.2 i d))
def am_dw (n : Nat) : am_D → Prop
  | .inl (t, k, some rs) => rs.length = k ∧ (∀ (j r : Nat), rs[j]? = some (some r) → r < n) ∧ ∃ ty, am_ty t = some ty ∧ ty.isReference = true
  | .inl (_, _, none) => True
  | .inr (_, fl) => ∀ (k j : Nat), fl[k]? = some (some (some j)) → j < n
def am_sz : am_D → Nat
  | .inl (_, k, _) => k
  | .inr (_, fl) => fl.length
def am_slt (tp : List am_D) : Nat := (tp.map am_sz).sum
theorem am_dw_up {n n' : Nat} (hn : n ≤ n') : ∀ {d : am_D}, am_dw n d → am_dw n' d
  | .inl (_, _, some _), h => ⟨h.1, fun j r e => Nat.lt_of_lt_of_le (h.2.1 j r e) hn, h.2.2⟩
  | .inl (_, _, none), _ => trivial
  | .inr (_, _), h => fun k j e => Nat.lt_of_lt_of_le (h k j e) hn
theorem am_wl_at {cy : Nat → ClassId} {al : Nat → Nat} {h : am_H} {i : Nat} {d : am_D} (hd : h.1[i]? = some d) : (am_wl cy al h)[i]? = some (al i, am_ex cy al h.2 i d) := by
  unfold am_wl
  rw [List.getElem?_mapIdx, hd]
  rfl
theorem am_wl_len {cy : Nat → ClassId} {al : Nat → Nat} {h : am_H} : (am_wl cy al h).length = h.1.length := by simp [am_wl]
theorem am_wl_mem {cy : Nat → ClassId} {al : Nat → Nat} {h : am_H} {i : Nat} {q : Nat × va_E} (hq : (am_wl cy al h)[i]? = some q) : ∃ d, h.1[i]? = some d ∧ q = (al i, am_ex cy al h.2 i d) := by
  unfold am_wl at hq
  rw [List.getElem?_mapIdx] at hq
  cases hd : h.1[i]? with
  | none => rw [hd] at hq; cases hq
  | some d => rw [hd] at hq; exact ⟨d, rfl, (Option.some.inj hq).symm⟩
theorem am_ex_eq {cy : Nat → ClassId} {al al' : Nat → Nat} {s s' : am_S} {i n : Nat} (hs : s' i = s i) (ha : ∀ j, j < n → al' j = al j) : ∀ {d : am_D}, am_dw n d → am_ex cy al' s' i d = am_ex cy al s i d
  | .inl (t, k, none), _ => by simp only [am_ex, hs]
  | .inl (t, k, some rs), h => by
    have e : am_rf al' rs = am_rf al rs := by
      funext j
      unfold am_rf
      cases hj : rs[j]? with
      | none => rfl
      | some o => cases o with
        | none => rfl
        | some r => exact congrArg some (ha r (h.2.1 j r hj))
    simp only [am_ex, e]
  | .inr (c, fl), h => by
    have e : am_fv al' s' i fl = am_fv al s i fl := by
      unfold am_fv
      apply List.ext_getElem?
      intro k
      rw [List.getElem?_mapIdx, List.getElem?_mapIdx]
      cases hk : fl[k]? with
      | none => rfl
      | some o => cases o with
        | none => simp [am_fo, hs]
        | some o => cases o with
          | none => rfl
          | some j => simp [am_fo, ha j (h k j hk)]
    simp only [am_ex, e]
theorem am_wl_set {cy : Nat → ClassId} {al : Nat → Nat} {h h' : am_H} {i : Nat} {d : am_D} {x : va_E} (hd : h.1[i]? = some d) (h1 : ∀ j : Nat, j ≠ i → h'.1[j]? = h.1[j]?) (h2 : ∀ j : Nat, j ≠ i → h'.2 j = h.2 j) {d' : am_D} (hd' : h'.1[i]? = some d') (hx : am_ex cy al h'.2 i d' = x) (hw : ∀ (j : Nat) (d : am_D), h.1[j]? = some d → am_dw h.1.length d) : am_wl cy al h' = (am_wl cy al h).set i (al i, x) := by
  apply List.ext_getElem?
  intro j
  rw [List.getElem?_set]
  by_cases hj : i = j
  · subst hj
    have hl : i < (am_wl cy al h).length := by rw [am_wl_len]; exact (List.getElem?_eq_some_iff.mp hd).1
    rw [if_pos rfl, if_pos hl, am_wl_at hd', hx]
  · rw [if_neg hj]
    unfold am_wl
    rw [List.getElem?_mapIdx, List.getElem?_mapIdx, h1 j (Ne.symm hj)]
    cases hd2 : h.1[j]? with
    | none => rfl
    | some d2 => exact congrArg some (by show (al j, am_ex cy al h'.2 j d2) = (al j, am_ex cy al h.2 j d2); rw [am_ex_eq (h2 j (Ne.symm hj)) (fun _ _ => rfl) (hw j d2 hd2)])
theorem am_fv_at {al : Nat → Nat} {s : am_S} {i k : Nat} {fl : List (Option (Option Nat))} {o : Option (Option Nat)} (hk : fl[k]? = some o) : (am_fv al s i fl)[k]? = some (am_fo al (s i k) o) := by
  unfold am_fv
  rw [List.getElem?_mapIdx, hk]
  rfl
theorem am_fv_wr {al : Nat → Nat} {s : am_S} {i k : Nat} {v : Int32} {fl : List (Option (Option Nat))} (hk : fl[k]? = some none) : am_fv al (am_wr s i k v) i fl = (am_fv al s i fl).set k (.int v) := by
  apply List.ext_getElem?
  intro j
  rw [List.getElem?_set]
  have hl : k < (am_fv al s i fl).length := by simp only [am_fv, List.length_mapIdx]; exact (List.getElem?_eq_some_iff.mp hk).1
  by_cases hj : k = j
  · subst hj
    rw [if_pos rfl, if_pos hl, am_fv_at hk, am_wr_self]
    rfl
  · rw [if_neg hj]
    unfold am_fv
    rw [List.getElem?_mapIdx, List.getElem?_mapIdx, am_wr_col s (Ne.symm hj)]
theorem am_fv_set {al : Nat → Nat} {s : am_S} {i k j : Nat} {fl : List (Option (Option Nat))} {o : Option (Option Nat)} (hk : fl[k]? = some o) : am_fv al s i (fl.set k (some (some j))) = (am_fv al s i fl).set k (.ref (al j)) := by
  apply List.ext_getElem?
  intro q
  rw [List.getElem?_set]
  have hl0 : k < fl.length := (List.getElem?_eq_some_iff.mp hk).1
  have hl : k < (am_fv al s i fl).length := by simp only [am_fv, List.length_mapIdx]; exact hl0
  unfold am_fv at hl ⊢
  rw [List.getElem?_mapIdx, List.getElem?_mapIdx, List.getElem?_set]
  by_cases hj : k = q
  · subst hj
    rw [if_pos rfl, if_pos hl0, if_pos rfl, if_pos hl]
    rfl
  · rw [if_neg hj, if_neg hj]
theorem am_rf_set {al : Nat → Nat} {rs : List (Option Nat)} {k j : Nat} (hk : k < rs.length) : am_rf al (rs.set k (some j)) = va_up (am_rf al rs) k (some (al j)) := by
  funext q
  unfold am_rf va_up
  rw [List.getElem?_set]
  by_cases hq : q = k
  · subst hq
    rw [if_pos rfl, if_pos hk, if_pos rfl]
    rfl
  · rw [if_neg (Ne.symm hq), if_neg hq]
/-- what holds between a state of the small machine and one of the kit's -/
def am_I (A : Nat → Prop) (D : va_G) (cl : List vw_C) (cy : Nat → ClassId) (H0 : Heap) (al : Nat → Nat) (h : am_H) (H : Heap) (locs : List Loc) : Prop :=
  va_P D cl (am_wl cy al h) H ∧ va_D A (am_wl cy al h) ∧ va_S A H0 H locs ∧ (∀ (i : Nat) (d : am_D), h.1[i]? = some d → am_dw h.1.length d) ∧ ∀ i k : Nat, h.1.length ≤ i → h.2 i k = 0
section AMW
variable {p : Program} {l : Launch} {e : Env} {R : Room} {s : State} {m : MethodId} {args : Array Value} {below : List Frame} {meth : Method} {c : Code} {H : Heap} {locs : List Loc} {cells slots : Nat} {Q : State → Prop}
variable {cc : ByteArray} {pc : Nat} {lk : Array Slot} {ls st rest : List Value} {al : Nat → Nat} {sb nL : Nat} {A : Nat → Prop} {D : va_G} {cl : List vw_C} {cy : Nat → ClassId} {tys : List (ClassId × FieldType)} {h h' : am_H}
theorem am_sim_ld {t a : Nat} {x v : Int32} (hx : p.tables.exec = Jvm.exec) (hb : c.code = cc) (hK : va_K D cl tys s) (hty : ∀ t ty, am_ty t = some ty → tys[t]? = some (cy t, ty)) (hI : am_I A D cl cy s.heap al h H locs) (he : am_ld h t a x = some v)
    (hdg : t = 0 ∧ am_ty 0 = some .int ∧ decode cc pc = .ok (.iaload, 1) ∨ t = 1 ∧ am_ty 1 = some .boolean ∧ decode cc pc = .ok (.baload, 1))
    (kk : W p l e R s m args below meth c H locs cells slots Q (F0 m (pc + 1) lk (.int v :: rest))) : W p l e R s m args below meth c H locs cells slots Q (F0 m pc lk (.int x :: .ref (al a) :: rest)) := by
  unfold am_ld at he
  split at he
  · rename_i t' n hd
    split at he
    · rename_i hc
      obtain ⟨rfl, hin⟩ := hc
      cases he
      have ha := am_wl_at (cy := cy) (al := al) hd
      rcases hdg with ⟨rfl, h1, h2⟩ | ⟨rfl, h1, h2⟩
      · exact va_iald hx hb hK hI.1 a 0 ha (hty 0 _ h1) hin h2 kk
      · exact va_zald hx hb hK hI.1 a 1 ha (hty 1 _ h1) hin h2 kk
    · cases he
  · cases he
theorem am_one_nar {v : Int32} (h : v = 0 ∨ v = 1) : v &&& 1 = v := by rcases h with rfl | rfl <;> decide
theorem am_I_wr {i k : Nat} {d : am_D} {x : va_E} {v : Int32} {H1 : Heap} {locs1 : List Loc} (hI : am_I A D cl cy s.heap al h H locs) (hd : h.1[i]? = some d) (hx : am_ex cy al (am_wr h.2 i k v) i d = x)
    (hP : va_P D cl ((am_wl cy al h).set i (al i, x)) H1) (hD : va_D A ((am_wl cy al h).set i (al i, x))) (hS : va_S A s.heap H1 locs1) : am_I A D cl cy s.heap al (h.1, am_wr h.2 i k v) H1 locs1 := by
  obtain ⟨-, -, -, hw, hz⟩ := hI
  have e := am_wl_set (h' := (h.1, am_wr h.2 i k v)) (cy := cy) (al := al) hd (fun _ _ => rfl) (fun j hj => am_wr_row h.2 hj) hd hx hw
  refine ⟨by rw [e]; exact hP, by rw [e]; exact hD, hS, hw, fun j q hj => ?_⟩
  have hl := (List.getElem?_eq_some_iff.mp hd).1
  show am_wr h.2 i k v j q = 0
  rw [am_wr_row h.2 (by have : h.1.length ≤ j := hj; omega)]
  exact hz j q hj
theorem am_sim_sd {t a : Nat} {x v : Int32} (hx : p.tables.exec = Jvm.exec) (hb : c.code = cc) (hK : va_K D cl tys s) (hty : ∀ t ty, am_ty t = some ty → tys[t]? = some (cy t, ty)) (hI : am_I A D cl cy s.heap al h H locs) (he : am_sd h t a x v = some h')
    (hdg : t = 0 ∧ am_ty 0 = some .int ∧ decode cc pc = .ok (.iastore, 1) ∨ t = 1 ∧ am_ty 1 = some .boolean ∧ decode cc pc = .ok (.bastore, 1))
    (kk : ∀ (H1 : Heap) (locs1 : List Loc), am_I A D cl cy s.heap al h' H1 locs1 → h'.1 = h.1 → W p l e R s m args below meth c H1 locs1 cells slots Q (F0 m (pc + 1) lk rest)) : W p l e R s m args below meth c H locs cells slots Q (F0 m pc lk (.int v :: .int x :: .ref (al a) :: rest)) := by
  unfold am_sd at he
  split at he
  · rename_i t' n hd
    split at he
    · rename_i hc
      obtain ⟨rfl, hin, hv⟩ := hc
      cases he
      have ha := am_wl_at (cy := cy) (al := al) hd
      rcases hdg with ⟨rfl, h1, h2⟩ | ⟨rfl, h1, h2⟩
      · exact va_iast hx hb hK hI.1 hI.2.1 hI.2.2.1 a 0 ha (hty 0 _ h1) hin h2 (fun H1 locs1 hP hD hS => kk H1 locs1 (am_I_wr hI hd (by simp only [am_ex, am_wr_upd]) hP hD hS) rfl)
      · have hn : vp_nar .boolean v = v := by
          show v &&& 1 = v
          exact am_one_nar (by rcases hv with h | h; cases h; exact h)
        refine va_zast hx hb hK hI.1 hI.2.1 hI.2.2.1 a 1 ha (hty 1 _ h1) hin h2 (fun H1 locs1 hP hD hS => ?_)
        rw [hn] at hP hD
        exact kk H1 locs1 (am_I_wr hI hd (by simp only [am_ex, am_wr_upd]) hP hD hS) rfl
    · cases he
  · cases he
theorem am_sim_la {a j : Nat} {x : Int32} (hx : p.tables.exec = Jvm.exec) (hb : c.code = cc) (hK : va_K D cl tys s) (hty : ∀ t ty, am_ty t = some ty → tys[t]? = some (cy t, ty)) (hI : am_I A D cl cy s.heap al h H locs) (he : am_la h a x = some j) (hdg : decode cc pc = .ok (.aaload, 1))
    (kk : j < h.1.length → W p l e R s m args below meth c H locs cells slots Q (F0 m (pc + 1) lk (.ref (al j) :: rest))) : W p l e R s m args below meth c H locs cells slots Q (F0 m pc lk (.int x :: .ref (al a) :: rest)) := by
  unfold am_la at he
  split at he
  · rename_i t n rs hd
    split at he
    · cases he
    · rename_i hin
      have ha := am_wl_at (cy := cy) (al := al) hd
      have hin : vp_in x n := hin
      obtain ⟨w1, w2, ty, w3, w4⟩ := hI.2.2.2.1 a _ hd
      have hlt : x.toNatClampNeg < n := Nat.not_le.mp fun q => hin (Or.inr q)
      have hj : rs[x.toNatClampNeg]? = some (some j) := by
        cases hq : rs[x.toNatClampNeg]? with
        | none => rw [hq] at he; cases he
        | some o => rw [hq] at he; exact congrArg some he
      have hf : am_rf al rs x.toNatClampNeg = some (al j) := by
        unfold am_rf
        rw [hj]
        rfl
      exact W.aald (v := .ref (al j)) (ty := ty) hx hb (hI.1 a _ ha) ((hK.2 t _ (hty t ty w3)).1 n (fun q => va_rf (am_rf al rs q))) w4 (fun q => by cases q) (by show ¬ (x < 0 ∨ (arrV _ _ _).slots.size ≤ _); rw [arrV_size]; exact hin) (by show (arrV _ _ _).slots[_]? = _; rw [arrV_read _ _ hlt, hf]; rfl) rfl rfl hdg (kk (w2 _ _ hj))
  · cases he
end AMW
end
section
/-! The small machine against the kit's machine: fields, new cells. -/
theorem am_slt_set {tp : List am_D} {i : Nat} {d d' : am_D} (hd : tp[i]? = some d) (hs : am_sz d' = am_sz d) : am_slt (tp.set i d') = am_slt tp := by
  unfold am_slt
  congr 1
  apply List.ext_getElem?
  intro j
  rw [List.getElem?_map, List.getElem?_map, List.getElem?_set]
  by_cases hj : i = j
  · subst hj
    rw [if_pos rfl, if_pos (List.getElem?_eq_some_iff.mp hd).1, hd]
    simp [hs]
  · rw [if_neg hj]
section AMX
variable {p : Program} {l : Launch} {e : Env} {R : Room} {s : State} {m : MethodId} {args : Array Value} {below : List Frame} {meth : Method} {c : Code} {H : Heap} {locs : List Loc} {cells slots : Nat} {Q : State → Prop}
variable {cc : ByteArray} {pc : Nat} {lk : Array Slot} {ls st rest : List Value} {al : Nat → Nat} {sb nL : Nat} {A : Nat → Prop} {D : va_G} {cl : List vw_C} {cy : Nat → ClassId} {tys : List (ClassId × FieldType)} {h h' : am_H} {Ts : List Cond} {own : String}
def am_lk (own : String) (args : Array Value) (s : State) (x : Nat) (C nm d : String) : Prop := (Cond.fieldLink own x C nm d).before args s = true ∨ ∃ host, (Cond.fieldLinkNest own x C nm d host).before args s = true
def am_gOK (cl : List vw_C) (Ts : List Cond) (own : String) (args : Array Value) (s : State) (x ci k : Nat) : Prop :=
  ∃ (C : String) (T : u_T) (Nf : Nat), cl[ci]? = some (C, T, Nf) ∧ k < Nf ∧ (∀ w ∈ u_ws C T Nf, w ∈ Ts) ∧ (T k).1 = C ∧ am_lk own args s x C (T k).2.1 (T k).2.2.1
def am_pOK (cl : List vw_C) (Ts : List Cond) (own : String) (args : Array Value) (s : State) (meth : Method) (x ci k kd : Nat) : Prop :=
  ∃ (C : String) (T : u_T) (Nf : Nat) (ty : Nat → FieldType), cl[ci]? = some (C, T, Nf) ∧ k < Nf ∧ (∀ w ∈ u_ws C T Nf, w ∈ Ts) ∧ (T k).1 = C ∧ (∀ k, k < Nf → parseFieldDescriptor (T k).2.2.1 = some (ty k)) ∧ (∀ a, a < Nf → ∀ b, b < Nf → a ≠ b → (T a).2.1 ≠ (T b).2.1) ∧
    (kd = 0 ∧ ty k = .int ∨ kd = 1 ∧ ty k = .boolean ∨ kd = 2 ∧ (ty k).isReference = true) ∧
    ((T k).2.2.2 = false ∧ am_lk own args s x C (T k).2.1 (T k).2.2.1 ∨ (T k).2.2.2 = true ∧ meth.name = "<init>" ∧ C = own ∧ (Cond.fieldLink own x C (T k).2.1 (T k).2.2.1).before args s = true)
theorem am_sim_gf {a x ci k : Nat} {v : Value} (hx : p.tables.exec = Jvm.exec) (hb : c.code = cc) (hts : ∀ w ∈ Ts, w.before args s = true) (hown : s.vm.findClass own = some m.cls) (hK : va_K D cl tys s) (hI : am_I A D cl cy s.heap al h H locs) (hg : am_gOK cl Ts own args s x ci k) (he : am_gf h a ci k = some v) (hdg : decode cc pc = .ok (.getfield x, 3))
    (kk : am_vw h.1.length v → W p l e R s m args below meth c H locs cells slots Q (F0 m (pc + 3) lk (am_rn al sb v :: rest))) : W p l e R s m args below meth c H locs cells slots Q (F0 m pc lk (.ref (al a) :: rest)) := by
  obtain ⟨C, T, Nf, h1, h2, h3, h4, h5⟩ := hg
  unfold am_gf at he
  split at he
  · rename_i q hd
    obtain ⟨c0, fl⟩ := q
    split at he
    · rename_i hc
      have hc : c0 = ci := hc
      subst hc
      have ha := am_wl_at (cy := cy) (al := al) hd
      have hw := hI.2.2.2.1 a _ hd
      have fin : ∀ o : Option (Option Nat), fl[k]? = some o → am_rn al sb v = am_fo al (h.2 a k) o → am_vw h.1.length v → W p l e R s m args below meth c H locs cells slots Q (F0 m pc lk (.ref (al a) :: rest)) := by
        intro o ho hv hvw
        have kk := kk hvw
        rw [hv] at kk
        rcases h5 with h5 | ⟨host, h5⟩
        · exact va_get hx hb hts h3 hown hK hI.1 a ha h1 k h2 h5 (fun _ z => by rw [← h4]; exact z) (am_fv_at ho) hdg kk
        · exact va_getN hx hb hts h3 hown hK hI.1 a ha h1 k h2 h5 (fun _ z => by rw [← h4]; exact z) (am_fv_at ho) hdg kk
      dsimp only at he
      cases ho : fl[k]? with
      | none => rw [ho] at he; cases he
      | some o =>
        rw [ho] at he
        cases o with
        | none => cases he; exact fin none ho rfl trivial
        | some o =>
          cases o with
          | none => cases he; exact fin (some none) ho rfl trivial
          | some j => cases he; exact fin (some (some j)) ho rfl (hw k j ho)
    · cases he
  · cases he
theorem am_I_set {i : Nat} {d d' : am_D} {x : va_E} {H1 : Heap} {locs1 : List Loc} (hI : am_I A D cl cy s.heap al h H locs) (hd : h.1[i]? = some d) (hx : am_ex cy al h.2 i d' = x) (hw' : am_dw h.1.length d')
    (hP : va_P D cl ((am_wl cy al h).set i (al i, x)) H1) (hD : va_D A ((am_wl cy al h).set i (al i, x))) (hS : va_S A s.heap H1 locs1) : am_I A D cl cy s.heap al (h.1.set i d', h.2) H1 locs1 := by
  obtain ⟨-, -, -, hw, hz⟩ := hI
  have hl := (List.getElem?_eq_some_iff.mp hd).1
  have hd2 : (h.1.set i d')[i]? = some d' := by rw [List.getElem?_set, if_pos rfl, if_pos hl]
  have e := am_wl_set (h' := (h.1.set i d', h.2)) (cy := cy) (al := al) hd (fun j hj => by show (h.1.set i d')[j]? = _; rw [List.getElem?_set, if_neg (Ne.symm hj)]) (fun _ _ => rfl) hd2 hx hw
  refine ⟨by rw [e]; exact hP, by rw [e]; exact hD, hS, fun j q hj => ?_, fun j q hj => hz j q (by have : (h.1.set i d').length ≤ j := hj; rw [List.length_set] at this; exact this)⟩
  show am_dw (h.1.set i d').length q
  rw [List.length_set]
  have hj : (h.1.set i d')[j]? = some q := hj
  rw [List.getElem?_set] at hj
  by_cases hij : i = j
  · rw [if_pos hij, if_pos hl] at hj
    cases hj
    exact hw'
  · rw [if_neg hij] at hj
    exact hw j q hj
theorem am_sim_pf {a x ci k kd : Nat} {v : Value} (hx : p.tables.exec = Jvm.exec) (hb : c.code = cc) (hts : ∀ w ∈ Ts, w.before args s = true) (hown : s.vm.findClass own = some m.cls) (hK : va_K D cl tys s) (hI : am_I A D cl cy s.heap al h H locs) (hg : am_pOK cl Ts own args s meth x ci k kd) (he : am_pf h a ci k kd v = some h') (hv : am_vw h.1.length v) (hdg : decode cc pc = .ok (.putfield x, 3))
    (kk : ∀ (H1 : Heap) (locs1 : List Loc), am_I A D cl cy s.heap al h' H1 locs1 → h'.1.length = h.1.length → am_slt h'.1 = am_slt h.1 → W p l e R s m args below meth c H1 locs1 cells slots Q (F0 m (pc + 3) lk rest)) : W p l e R s m args below meth c H locs cells slots Q (F0 m pc lk (am_rn al sb v :: .ref (al a) :: rest)) := by
  obtain ⟨C, T, Nf, ty, h1, h2, h3, h4, h5, h6, h7, h8⟩ := hg
  unfold am_pf at he
  split at he
  · rename_i q hd
    obtain ⟨c0, fl⟩ := q
    split at he
    · rename_i hc
      have hc : c0 = ci := hc
      subst hc
      have ha := am_wl_at (cy := cy) (al := al) hd
      have hw := hI.2.2.2.1 a _ hd
      have fin : ∀ o : Option (Option Nat), fl[k]? = some o → narrow (ty k) (am_rn al sb v) = am_rn al sb v → fits (ty k) (am_rn al sb v) = true →
          (∀ (H1 : Heap) (locs1 : List Loc), va_P D cl ((am_wl cy al h).set a (al a, .inr (c0, (am_fv al h.2 a fl).set k (am_rn al sb v)))) H1 → va_D A ((am_wl cy al h).set a (al a, .inr (c0, (am_fv al h.2 a fl).set k (am_rn al sb v)))) → va_S A s.heap H1 locs1 → W p l e R s m args below meth c H1 locs1 cells slots Q (F0 m (pc + 3) lk rest)) →
          W p l e R s m args below meth c H locs cells slots Q (F0 m pc lk (am_rn al sb v :: .ref (al a) :: rest)) := by
        intro o ho hn hf kk
        have hl : k < (am_fv al h.2 a fl).length := by simp only [am_fv, List.length_mapIdx]; exact (List.getElem?_eq_some_iff.mp ho).1
        rcases h8 with ⟨g1, g2⟩ | ⟨g1, g2, g3, g4⟩
        · rcases g2 with g2 | ⟨host, g2⟩
          · exact va_put hx hb hts h3 ty h5 h6 hown hK hI.1 hI.2.1 hI.2.2.1 a ha h1 k h2 g2 (fun _ z => by rw [← h4]; exact z) g1 (h5 k h2) hn hf hl hdg kk
          · exact va_putN hx hb hts h3 ty h5 h6 hown hK hI.1 hI.2.1 hI.2.2.1 a ha h1 k h2 g2 (fun _ z => by rw [← h4]; exact z) g1 (h5 k h2) hn hf hl hdg kk
        · exact va_putF hx hb hts h3 ty h5 h6 hown hK hI.1 hI.2.1 hI.2.2.1 a ha h1 k h2 g4 (fun _ z => by rw [← h4]; exact z) g1 g2 (h4.trans g3) (h5 k h2) hn hf hl hdg kk
      dsimp only at he
      split at he
      · rename_i y ho
        cases he
        have ht : ty k = .int := by
          rcases h7 with ⟨_, h7⟩ | ⟨h7, _⟩ | ⟨h7, _⟩
          · exact h7
          · cases h7
          · cases h7
        refine fin none ho (by rw [ht]; rfl) (by rw [ht]; rfl) (fun H1 locs1 hP hD hS => kk H1 locs1 (am_I_wr hI hd ?_ hP hD hS) rfl rfl)
        show (Sum.inr (c0, am_fv al (am_wr h.2 a k y) a fl) : va_E) = _
        rw [am_fv_wr ho]
        rfl
      · rename_i y ho
        split at he
        · rename_i hy
          cases he
          have ht : ty k = .boolean := by
            rcases h7 with ⟨h7, _⟩ | ⟨_, h7⟩ | ⟨h7, _⟩
            · cases h7
            · exact h7
            · cases h7
          refine fin none ho (by rw [ht]; show Value.int (y &&& 1) = .int y; rw [am_one_nar hy]) (by rw [ht]; show (y == 0 || y == 1) = true; rcases hy with rfl | rfl <;> rfl) (fun H1 locs1 hP hD hS => kk H1 locs1 (am_I_wr hI hd ?_ hP hD hS) rfl rfl)
          show (Sum.inr (c0, am_fv al (am_wr h.2 a k y) a fl) : va_E) = _
          rw [am_fv_wr ho]
          rfl
        · cases he
      · rename_i o j ho
        cases he
        have ht : (ty k).isReference = true := by
          rcases h7 with ⟨h7, _⟩ | ⟨h7, _⟩ | ⟨_, h7⟩
          · cases h7
          · cases h7
          · exact h7
        have hl := (List.getElem?_eq_some_iff.mp hd).1
        refine fin (some o) ho (by show narrow (ty k) (.ref (al j)) = .ref (al j); cases hk : ty k <;> rw [hk] at ht <;> first | rfl | cases ht) (by show fits (ty k) (.ref (al j)) = true; cases hk : ty k <;> rw [hk] at ht <;> first | rfl | cases ht)
          (fun H1 locs1 hP hD hS => kk H1 locs1 (am_I_set hI hd ?_ ?_ hP hD hS) (by show (h.1.set a _).length = _; rw [List.length_set]) ?_)
        · show (Sum.inr (c0, am_fv al h.2 a (fl.set k (some (some j)))) : va_E) = _
          rw [am_fv_set ho]
          rfl
        · intro k2 j2 hj
          rw [List.getElem?_set] at hj
          by_cases hk2 : k = k2
          · rw [if_pos hk2, if_pos (List.getElem?_eq_some_iff.mp ho).1] at hj
            cases hj
            exact hv
          · rw [if_neg hk2] at hj
            exact hw k2 j2 hj
        · show am_slt (h.1.set a _) = _
          exact am_slt_set hd (by simp [am_sz])
      · cases he
    · cases he
  · cases he
end AMX
end
section
/-! New cells, stores of references, calls. -/
theorem am_wl_app {cy : Nat → ClassId} {al : Nat → Nat} {h : am_H} {d : am_D} {q : Nat} (hw : ∀ (i : Nat) (d : am_D), h.1[i]? = some d → am_dw h.1.length d) : am_wl cy (va_up al h.1.length q) (h.1 ++ [d], h.2) = am_wl cy al h ++ [(q, am_ex cy (va_up al h.1.length q) h.2 h.1.length d)] := by
  apply List.ext_getElem?
  intro j
  have e0 : (am_wl cy (va_up al h.1.length q) (h.1 ++ [d], h.2))[j]? = ((h.1 ++ [d])[j]?).map (fun d => (va_up al h.1.length q j, am_ex cy (va_up al h.1.length q) h.2 j d)) := by
    unfold am_wl
    rw [List.getElem?_mapIdx]
  rw [e0]
  by_cases hj : j < h.1.length
  · have hd2 : h.1[j]? = some h.1[j] := List.getElem?_eq_getElem hj
    rw [List.getElem?_append_left hj, List.getElem?_append_left (by rw [am_wl_len]; exact hj), am_wl_at hd2, hd2]
    show some (_, _) = _
    rw [va_up_ne al q (by omega), am_ex_eq rfl (fun i hi => va_up_ne al q (by omega)) (hw j _ hd2)]
  · rw [List.getElem?_append_right (by omega), List.getElem?_append_right (by rw [am_wl_len]; omega), am_wl_len]
    by_cases hk : j = h.1.length
    · subst hk
      rw [Nat.sub_self]
      show some (va_up al h.1.length q h.1.length, _) = _
      rw [va_up_self]
      rfl
    · obtain ⟨k, hk⟩ : ∃ k, j - h.1.length = k + 1 := ⟨j - h.1.length - 1, by omega⟩
      rw [hk]
      rfl
theorem am_slt_app (tp tq : List am_D) : am_slt (tp ++ tq) = am_slt tp + am_slt tq := by simp [am_slt]
section AMN
variable {p : Program} {l : Launch} {e : Env} {R : Room} {s : State} {m : MethodId} {args : Array Value} {below : List Frame} {meth : Method} {c : Code} {H : Heap} {locs : List Loc} {cells slots : Nat} {Q : State → Prop}
variable {cc : ByteArray} {pc : Nat} {lk : Array Slot} {ls st rest : List Value} {al : Nat → Nat} {sb nL : Nat} {A : Nat → Prop} {D : va_G} {cl : List vw_C} {cy : Nat → ClassId} {tys : List (ClassId × FieldType)} {h h' : am_H} {Ts : List Cond} {own : String} {restK : List Value}
theorem am_I_app {q : Nat} {d : am_D} {H1 : Heap} {locs1 : List Loc} (hI : am_I A D cl cy s.heap al h H locs) (hdw : am_dw (h.1.length + 1) d) (hP : va_P D cl (am_wl cy al h ++ [(q, am_ex cy (va_up al h.1.length q) h.2 h.1.length d)]) H1) (hD : va_D A (am_wl cy al h ++ [(q, am_ex cy (va_up al h.1.length q) h.2 h.1.length d)])) (hS : va_S A s.heap H1 locs1) : am_I A D cl cy s.heap (va_up al h.1.length q) (h.1 ++ [d], h.2) H1 locs1 := by
  obtain ⟨-, -, -, hw, hz⟩ := hI
  have e := am_wl_app (cy := cy) (al := al) (d := d) (q := q) hw
  have hl : (h.1 ++ [d]).length = h.1.length + 1 := by simp
  refine ⟨by rw [e]; exact hP, by rw [e]; exact hD, hS, fun j x hj => ?_, fun j k hj => hz j k (by have : (h.1 ++ [d]).length ≤ j := hj; omega)⟩
  show am_dw (h.1 ++ [d]).length x
  rw [hl]
  have hj : (h.1 ++ [d])[j]? = some x := hj
  by_cases hjl : j < h.1.length
  · rw [List.getElem?_append_left hjl] at hj
    exact am_dw_up (Nat.le_succ _) (hw j x hj)
  · rw [List.getElem?_append_right (by omega)] at hj
    have hz2 : j - h.1.length < 1 := (List.getElem?_eq_some_iff.mp hj).1
    rw [show j - h.1.length = 0 by omega] at hj
    cases hj
    exact hdw
def am_nOK (cl : List vw_C) (Ts : List Cond) (own : String) (args : Array Value) (s : State) (x ci : Nat) (fl : List (Option (Option Nat))) : Prop :=
  ∃ (C : String) (T : u_T) (Nf : Nat) (ty : Nat → FieldType), cl[ci]? = some (C, T, Nf) ∧ (∀ w ∈ u_ws C T Nf, w ∈ Ts) ∧ (∀ k, k < Nf → parseFieldDescriptor (T k).2.2.1 = some (ty k)) ∧ (Cond.classLink own x C).before args s = true ∧ (Cond.instantiable C Nf).before args s = true ∧ (Cond.initialized C).before args s = true ∧
    fl.length = Nf ∧ ∀ j, j < Nf → fl[j]? = some none ∧ defaultValue (ty j) = .int 0 ∨ fl[j]? = some (some none) ∧ defaultValue (ty j) = .null
theorem am_sim_new {x ci : Nat} {fl : List (Option (Option Nat))} (hx : p.tables.exec = Jvm.exec) (hb : c.code = cc) (hts : ∀ w ∈ Ts, w.before args s = true) (hown : s.vm.findClass own = some m.cls) (hK : va_K D cl tys s) (hA : ∀ q, s.heap.size ≤ q → A q) (hI : am_I A D cl cy s.heap al h H locs) (hg : am_nOK cl Ts own args s x ci fl) (hcells : cells + 1 ≤ R.cells) (hslots : slots + fl.length ≤ R.slots) (hdg : decode cc pc = .ok (.new x, 3))
    (kk : ∀ (q : Nat) (H1 : Heap), am_I A D cl cy s.heap (va_up al h.1.length q) (h.1 ++ [.inr (ci, fl)], h.2) H1 locs → W p l e R s m args below meth c H1 locs (cells + 1) (slots + fl.length) Q (F0 m (pc + 3) lk (.ref q :: restK))) : W p l e R s m args below meth c H locs cells slots Q (F0 m pc lk restK) := by
  obtain ⟨C, T, Nf, ty, h1, h2, h3, h4, h5, h6, rfl, h8⟩ := hg
  have hfl : ∀ j o, fl[j]? = some o → o = none ∨ o = some none := fun j o ho => by
    rcases h8 j (List.getElem?_eq_some_iff.mp ho).1 with ⟨z, -⟩ | ⟨z, -⟩
    · rw [z] at ho; cases ho; exact Or.inl rfl
    · rw [z] at ho; cases ho; exact Or.inr rfl
  have hfv : ∀ a2 : Nat → Nat, am_fv a2 h.2 h.1.length fl = am_fv (fun _ => 0) (fun _ _ => 0) 0 fl := by
    intro a2
    unfold am_fv
    apply List.ext_getElem?
    intro k
    rw [List.getElem?_mapIdx, List.getElem?_mapIdx]
    cases ho : fl[k]? with
    | none => rfl
    | some o =>
      rcases hfl k o ho with rfl | rfl
      · show some (Value.int (h.2 h.1.length k)) = some (Value.int 0)
        rw [hI.2.2.2.2 _ _ (Nat.le_refl _)]
      · rfl
  refine va_new (ci := ci) (fs := am_fv (fun _ => 0) (fun _ _ => 0) 0 fl) hx hb hts h2 ty h3 hown h4 h5 h6 hK hI.1 hI.2.1 hI.2.2.1 hA h1 (fun j hj => ?_) hcells hslots hdg (fun q H1 hP hD hS => kk q H1 (am_I_app hI ?_ ?_ ?_ hS))
  · unfold vp_V
    rw [List.getD_eq_getElem?_getD]
    rcases h8 j hj with ⟨z, z2⟩ | ⟨z, z2⟩
    · rw [am_fv_at z, z2]; rfl
    · rw [am_fv_at z, z2]; rfl
  · intro k j ho
    rcases hfl k _ ho with z | z <;> cases z
  · show va_P D cl (am_wl cy al h ++ [(q, .inr (ci, am_fv _ h.2 h.1.length fl))]) H1
    rw [hfv]
    exact hP
  · show va_D A (am_wl cy al h ++ [(q, .inr (ci, am_fv _ h.2 h.1.length fl))])
    rw [hfv]
    exact hD
theorem am_sim_newI {t : Nat} {n : Int32} {aty : ArrayType} {fty : FieldType} (hx : p.tables.exec = Jvm.exec) (hb : c.code = cc) (hK : va_K D cl tys s) (hty : ∀ t ty, am_ty t = some ty → tys[t]? = some (cy t, ty)) (hA : ∀ q, s.heap.size ≤ q → A q) (hI : am_I A D cl cy s.heap al h H locs) (hin : ¬ am_out n 1000)
    (hk : t = 0 ∧ aty = .int ∧ fty = .int ∨ t = 1 ∧ aty = .boolean ∧ fty = .boolean) (ht : am_ty t = some fty) (hac : (Cond.arrayClass fty).before args s = true) (hcells : cells + 1 ≤ R.cells) (hslots : slots + n.toNatClampNeg ≤ R.slots) (hdg : decode cc pc = .ok (.newarray aty, 2))
    (kk : ∀ (q : Nat) (H1 : Heap), am_I A D cl cy s.heap (va_up al h.1.length q) (h.1 ++ [.inl (t, n.toNatClampNeg, none)], h.2) H1 locs → W p l e R s m args below meth c H1 locs (cells + 1) (slots + n.toNatClampNeg) Q (F0 m (pc + 2) lk (.ref q :: restK))) : W p l e R s m args below meth c H locs cells slots Q (F0 m pc lk (.int n :: restK)) := by
  have hf : newarray.typeOf aty = fty := by rcases hk with ⟨-, rfl, rfl⟩ | ⟨-, rfl, rfl⟩ <;> rfl
  have hz : h.2 h.1.length = fun _ => 0 := funext fun k => hI.2.2.2.2 _ _ (Nat.le_refl _)
  have hlt : n.toNatClampNeg < 1000 := Nat.not_le.mp fun q => hin (Or.inr q)
  have hcb : componentBytes fty ≤ 8 := by rcases hk with ⟨-, -, rfl⟩ | ⟨-, -, rfl⟩ <;> decide
  refine va_newa (a0 := (n.toNatClampNeg, .inl (fun _ => 0))) hx hb (by rw [hf]; exact hac) hf hK hI.1 hI.2.1 hI.2.2.1 hA (fun cA => ?_) (fun q => hin (Or.inl q)) rfl ?_ hcells hslots hdg (fun q cA H1 hK1 hP hD hS => kk q H1 ?_)
  · rcases hk with ⟨-, -, rfl⟩ | ⟨-, -, rfl⟩ <;> rfl
  · exact Nat.le_trans (Nat.mul_le_mul (Nat.le_of_lt hlt) hcb) (by decide)
  · have r1 := (hK1.2 tys.length (cA, fty) (by simp)).2
    have r2 := (hK.2 t _ (hty t fty ht)).2
    have ec : cA = cy t := by rcases hk with ⟨-, -, rfl⟩ | ⟨-, -, rfl⟩ <;> exact Option.some.inj (r1.symm.trans r2)
    subst ec
    refine am_I_app hI trivial ?_ ?_ hS
    · show va_P D cl (am_wl cy al h ++ [(q, .inl (cy t, n.toNatClampNeg, .inl (h.2 h.1.length)))]) H1
      rw [hz]
      exact hP
    · show va_D A (am_wl cy al h ++ [(q, .inl (cy t, n.toNatClampNeg, .inl (h.2 h.1.length)))])
      rw [hz]
      exact hD
theorem am_sim_newA {t x : Nat} {n : Int32} {C : String} (hx : p.tables.exec = Jvm.exec) (hb : c.code = cc) (hown : s.vm.findClass own = some m.cls) (hK : va_K D cl tys s) (hty : ∀ t ty, am_ty t = some ty → tys[t]? = some (cy t, ty)) (hA : ∀ q, s.heap.size ≤ q → A q) (hI : am_I A D cl cy s.heap al h H locs) (hin : ¬ am_out n 1000)
    (ht : am_ty t = some (.object C)) (hcl : (Cond.classLink own x C).before args s = true) (hao : (Cond.arrayOver (.object C)).before args s = true) (hcells : cells + 1 ≤ R.cells) (hslots : slots + n.toNatClampNeg ≤ R.slots) (hdg : decode cc pc = .ok (.anewarray x, 3))
    (kk : ∀ (q : Nat) (H1 : Heap), am_I A D cl cy s.heap (va_up al h.1.length q) (h.1 ++ [.inl (t, n.toNatClampNeg, some (List.replicate n.toNatClampNeg none))], h.2) H1 locs → W p l e R s m args below meth c H1 locs (cells + 1) (slots + n.toNatClampNeg) Q (F0 m (pc + 3) lk (.ref q :: restK))) : W p l e R s m args below meth c H locs cells slots Q (F0 m pc lk (.int n :: restK)) := by
  have hlt : n.toNatClampNeg < 1000 := Nat.not_le.mp fun q => hin (Or.inr q)
  have hrf : ∀ a2 : Nat → Nat, am_rf a2 (List.replicate n.toNatClampNeg none) = fun _ => none := by
    intro a2
    funext j
    unfold am_rf
    rw [List.getElem?_replicate]
    split <;> rfl
  refine va_newq hx hb hown hcl (va_AO.of hao) hK hI.1 hI.2.1 hI.2.2.1 hA (fun q => hin (Or.inl q)) rfl (by omega) hcells hslots hdg (fun q cA H1 hK1 hP hD hS => kk q H1 ?_)
  obtain ⟨_, _, -, -, -, r1⟩ := (hK1.2 tys.length (cA, .object C) (by simp)).2
  obtain ⟨_, _, -, -, -, r2⟩ := (hK.2 t _ (hty t _ ht)).2
  have ec : cA = cy t := Option.some.inj (r1.symm.trans r2)
  subst ec
  refine am_I_app hI ⟨by simp, fun j r hj => ?_, _, ht, rfl⟩ ?_ ?_ hS
  · rw [List.getElem?_replicate] at hj
    split at hj <;> cases hj
  · show va_P D cl (am_wl cy al h ++ [(q, .inl (cy t, n.toNatClampNeg, .inr (.inr (.inr (.inr (am_rf _ (List.replicate n.toNatClampNeg none)))))))]) H1
    rw [hrf]
    exact hP
  · show va_D A (am_wl cy al h ++ [(q, .inl (cy t, n.toNatClampNeg, .inr (.inr (.inr (.inr (am_rf _ (List.replicate n.toNatClampNeg none)))))))])
    rw [hrf]
    exact hD
theorem am_sim_sa {a j : Nat} {x : Int32} (hx : p.tables.exec = Jvm.exec) (hb : c.code = cc) (hK : va_K D cl tys s) (hty : ∀ t ty, am_ty t = some ty → tys[t]? = some (cy t, ty)) (htc : ∀ t ci, am_tyc t = some ci → ∃ r : vw_C, cl[ci]? = some r ∧ am_ty t = some (.object r.1)) (hI : am_I A D cl cy s.heap al h H locs) (he : am_sa h a x j = some h') (hdg : decode cc pc = .ok (.aastore, 1))
    (kk : ∀ (H1 : Heap) (locs1 : List Loc), am_I A D cl cy s.heap al h' H1 locs1 → h'.1.length = h.1.length → am_slt h'.1 = am_slt h.1 → W p l e R s m args below meth c H1 locs1 cells slots Q (F0 m (pc + 1) lk restK)) : W p l e R s m args below meth c H locs cells slots Q (F0 m pc lk (.ref (al j) :: .int x :: .ref (al a) :: restK)) := by
  unfold am_sa at he
  split at he
  · rename_i t n rs q hd hj
    split at he
    · cases he
    · rename_i hc
      cases he
      have hin : vp_in x n := fun z => hc (Or.inl z)
      have htq : am_tyc t = some q.1 := by
        by_cases z : am_tyc t = some q.1
        · exact z
        · exact absurd (Or.inr z) hc
      obtain ⟨r, hr1, hr2⟩ := htc t q.1 htq
      have ha := am_wl_at (cy := cy) (al := al) hd
      have hb2 := am_wl_at (cy := cy) (al := al) hj
      obtain ⟨c1, fl⟩ := q
      obtain ⟨w1, w2, w3⟩ := hI.2.2.2.1 a _ hd
      have hlt : x.toNatClampNeg < n := Nat.not_le.mp fun q => hin (Or.inr q)
      have hjl := (List.getElem?_eq_some_iff.mp hj).1
      refine va_astq hx hb hK hI.1 hI.2.1 hI.2.2.1 a t j c1 ha (hty t _ hr2) hb2 hr1 hin hdg (fun H1 locs1 hP hD hS => kk H1 locs1 (am_I_set hI hd ?_ ?_ hP hD hS) (by show (h.1.set a _).length = _; rw [List.length_set]) ?_)
      · show (Sum.inl (cy t, n, .inr (.inr (.inr (.inr (am_rf al (rs.set x.toNatClampNeg (some j))))))) : va_E) = _
        rw [am_rf_set (by omega)]
      · refine ⟨by rw [List.length_set]; exact w1, fun k r hk => ?_, w3⟩
        rw [List.getElem?_set] at hk
        by_cases hkx : x.toNatClampNeg = k
        · rw [if_pos hkx, if_pos (by omega)] at hk
          cases hk
          exact hjl
        · rw [if_neg hkx] at hk
          exact w2 k r hk
      · exact am_slt_set hd rfl
  · cases he
/-- how a call ends -/
def am_Q (D : va_G) (cl : List vw_C) (cy : Nat → ClassId) (al : Nat → Nat) (sb : Nat) (h h' : am_H) (r : Option Value) (z : Nat) : Array Value → State → Outcome → State → Prop := fun _ st oc t =>
  (∃ al' : Nat → Nat, (∀ i, i < h.1.length → al' i = al i) ∧ oc = .returned (r.map (am_rn al' sb)) ∧ (∀ v, r = some v → am_vw h'.1.length v) ∧ va_P D cl (am_wl cy al' h') t.heap ∧ va_D (va_A (am_wl cy al h) z) (am_wl cy al' h') ∧ (∀ (i : Nat) (d : am_D), h'.1[i]? = some d → am_dw h'.1.length d) ∧ ∀ i k : Nat, h'.1.length ≤ i → h'.2 i k = 0) ∧ va_F (va_A (am_wl cy al h) z) st t
def am_Pre (D : va_G) (cl : List vw_C) (cy : Nat → ClassId) (tys : List (ClassId × FieldType)) (al : Nat → Nat) (sb : Nat) (as : List Value) (h : am_H) (z : Nat) : Array Value → State → Prop :=
  va_Pc (as.map (am_rn al sb)) (fun U => U.heap.size = z ∧ va_P D cl (am_wl cy al h) U.heap ∧ va_K D cl tys U ∧ va_D (fun _ => True) (am_wl cy al h) ∧ am_NW U)
theorem am_callQ {mc ms : Nat} {r : Option Value} {a0 : Array Value} {st0 : List Value} (hr : va_Run p l e R s m args below meth c H locs cells slots mc ms (F0 m pc lk st0) (rest.map (am_rn al sb)) (am_Q D cl cy al sb h h' r H.size a0) (va_A (am_wl cy al h) H.size)) (hI : am_I A D cl cy s.heap al h H locs) (hA : ∀ q, s.heap.size ≤ q → A q) (hrest : ∀ v ∈ rest, am_vw h.1.length v)
    (kk : ∀ (al' : Nat → Nat) (H1 : Heap) (locs1 : List Loc), (∀ i, i < h.1.length → al' i = al i) → am_I A D cl cy s.heap al' h' H1 locs1 → (∀ v, r = some v → am_vw h'.1.length v) → W p l e R s m args below meth c H1 locs1 (cells + mc) (slots + ms) Q (F0 m (pc + 3) lk ((r.toList ++ rest).map (am_rn al' sb)))) : W p l e R s m args below meth c H locs cells slots Q (F0 m pc lk st0) := by
  have hF : ∀ q, va_A (am_wl cy al h) H.size q → A q := by
    intro q hq
    rcases hq with ⟨k, e1, hq⟩ | hq
    · exact hI.2.1.2 k (q, e1) hq
    · exact hA q (Nat.le_trans hI.2.2.1.1 hq)
  intro T hT X
  obtain ⟨v, st₀, t, T', L, h0, X', hL, e1, e2, ⟨⟨al', q1, q2, q3, q5, q6, q7, q8⟩, hz, hk⟩, st⟩ := hr T hT X
  cases q2
  rw [h0] at hz hk
  have hS := hI.2.2.1
  obtain ⟨t2, a1, b1⟩ := kk al' T'.heap (locs ++ L) q1 ⟨by rw [e1]; exact q5, q6.weaken (fun _ q _ z => hF _ z),
    ⟨Nat.le_trans hS.1 (by rw [e1]; exact hz), fun q h1 h2 => by rw [e1, hk q (Nat.lt_of_lt_of_le h1 hS.1) (fun z => h2 (hF q z))]; exact hS.2.1 q h1 h2, fun q hq => by
      rcases List.mem_append.mp hq with h | h
      · exact hS.2.2 q h
      · exact hF _ (hL q h)⟩, q7, q8⟩ q3 T' rfl X'
  have e3 : (r.map (am_rn al' sb)).toList ++ rest.map (am_rn al sb) = (r.toList ++ rest).map (am_rn al' sb) := by
    rw [List.map_append, am_rn_map hrest q1]
    cases r <;> rfl
  refine ⟨t2, st t2 ?_, b1⟩
  show Steps p.tables e below (T'.setTop (F0 m (pc + 3) lk ((r.map (am_rn al' sb)).toList ++ rest.map (am_rn al sb)))) t2
  rw [e3]
  exact a1
end AMN
end
section
/-! Calls, and a whole run. -/
def am_grow (f : am_F) : Prop := ∀ (N : Nat) (as : List Value) (h : am_H) (r : Option Value) (h' : am_H), f N as h = some (r, h') → h.1.length ≤ h'.1.length ∧ am_slt h.1 ≤ am_slt h'.1
/-- a method of the kit's machine does what the function says -/
def am_Sd (l : Launch) (cl : List vw_C) (y : MethodName) (ws : List Cond) (fr lo : Nat) (f : am_F) : Prop :=
  ∀ (D : va_G) (cy : Nat → ClassId) (tys : List (ClassId × FieldType)) (N : Nat) (as : List Value) (h h' : am_H) (r : Option Value) (al : Nat → Nat) (sb z : Nat), (∀ t ty, am_ty t = some ty → tys[t]? = some (cy t, ty)) → f N as h = some (r, h') → (∀ v ∈ as, am_vw h.1.length v) → (∀ (i : Nat) (d : am_D), h.1[i]? = some d → am_dw h.1.length d) → (∀ i k : Nat, h.1.length ≤ i → h.2 i k = 0) →
    Met l y ws { frames := fr, cells := h'.1.length - h.1.length, slots := am_slt h'.1 - am_slt h.1, locals := lo } (am_Pre D cl cy tys al sb as h z) (am_Q D cl cy al sb h h' r z) (h'.1.length - h.1.length) (am_slt h'.1 - am_slt h.1) (va_A (am_wl cy al h) z)
section AMC
variable {p : Program} {l : Launch} {e : Env} {R : Room} {s : State} {m : MethodId} {args : Array Value} {below : List Frame} {meth : Method} {c : Code}
variable {cc : ByteArray} {pc nL n0 s0 sb : Nat} {A : Nat → Prop} {D : va_G} {cl : List vw_C} {cy : Nat → ClassId} {tys : List (ClassId × FieldType)} {Ts : List Cond} {own : String}
/-- a call's step -/
def am_cOK (p : Program) (l : Launch) (e : Env) (R : Room) (s : State) (m : MethodId) (args : Array Value) (below : List Frame) (meth : Method) (c : Code) (A : Nat → Prop) (D : va_G) (cl : List vw_C) (cy : Nat → ClassId) (sb nL n0 s0 pc na : Nat) (rc : Option Nat) (f : am_F) : Prop :=
  ∀ (N : Nat) (as rest : List Value) (h h' : am_H) (r : Option Value) (al : Nat → Nat) (H : Heap) (locs : List Loc) (lk : Array Slot) (Q : State → Prop), f N as h = some (r, h') → as.length = na → am_rc h as rc = true → rest.length ≤ 8 → am_I A D cl cy s.heap al h H locs → (∀ v ∈ as, am_vw h.1.length v) → (∀ v ∈ rest, am_vw h.1.length v) → lk.size = nL → n0 ≤ h.1.length → s0 ≤ am_slt h.1 → h.1.length ≤ h'.1.length → am_slt h.1 ≤ am_slt h'.1 → h'.1.length ≤ n0 + R.cells → am_slt h'.1 ≤ s0 + R.slots →
    (∀ (al' : Nat → Nat) (H1 : Heap) (locs1 : List Loc), (∀ i, i < h.1.length → al' i = al i) → am_I A D cl cy s.heap al' h' H1 locs1 → (∀ v, r = some v → am_vw h'.1.length v) → W p l e R s m args below meth c H1 locs1 (h'.1.length - n0) (am_slt h'.1 - s0) Q (F0 m (pc + 3) lk ((r.toList ++ rest).map (am_rn al' sb)))) →
    W p l e R s m args below meth c H locs (h.1.length - n0) (am_slt h.1 - s0) Q (F0 m pc lk ((as.reverse ++ rest).map (am_rn al sb)))
theorem am_blind {al : Nat → Nat} {as : List Value} {h : am_H} {z : Nat} : FrameBlind (am_Pre D cl cy tys al sb as h z) := by
  intro a U g mk q
  obtain ⟨q0, q1, qP, qK, qD, qN⟩ := q
  exact ⟨q0, q1, qP, va_K.moved (u := U) (U := U.calling g mk a) (Vm.Alike.refl U.vm) qK, qD, am_NW_same (u := U) (U := U.calling g mk a) rfl qN⟩
theorem am_pre {al : Nat → Nat} {as : List Value} {h : am_H} {H : Heap} {locs : List Loc} (hK : va_K D cl tys s) (hN : am_NW s) (hI : am_I A D cl cy s.heap al h H locs) : PreS s H (am_Pre D cl cy tys al sb as h H.size) (as.map (am_rn al sb)) :=
  ⟨am_blind, fun U hU hW => ⟨rfl, by rw [hU], by rw [hU]; exact hI.1, va_K.moved hW.alike hK, hI.2.1.weaken (fun _ _ _ _ => trivial), am_NW_warm hW hN⟩⟩
theorem am_lenw {n : Nat} {al : Nat → Nat} {vs : List Value} (h : ∀ v ∈ vs, am_vw n v) : ((vs.map (am_rn al sb)).map fun v => v.category).sum = vs.length := by
  induction vs with
  | nil => rfl
  | cons a vs ih =>
    have h1 := List.forall_mem_cons.mp h
    simp only [List.map_cons, List.sum_cons, List.length_cons, am_vw_cat al sb h1.1, ih h1.2]
    omega
theorem am_rc_some {h : am_H} {as : List Value} {ci : Nat} (hr : am_rc h as (some ci) = true) : ∃ a as' fl, as = .ref a :: as' ∧ h.1[a]? = some (.inr (ci, fl)) := by
  unfold am_rc at hr
  cases as with
  | nil => cases hr
  | cons v as' =>
    cases v with
    | ref a =>
      dsimp only at hr
      cases hd : h.1[a]? with
      | none => rw [hd] at hr; cases hr
      | some d =>
        cases d with
        | inl z => rw [hd] at hr; cases hr
        | inr q =>
          rw [hd] at hr
          obtain ⟨c0, fl⟩ := q
          have : c0 = ci := beq_iff_eq.mp hr
          subst this
          exact ⟨a, as', fl, rfl, hd⟩
    | _ => cases hr
theorem am_rev {al : Nat → Nat} (as rest : List Value) : (as.reverse ++ rest).map (am_rn al sb) = (as.map (am_rn al sb)).reverse ++ rest.map (am_rn al sb) := by simp
theorem am_cV {x ci fr lo maxL na : Nat} {C : String} {T : u_T} {Nf : Nat} {y : MethodName} {bytes : ByteArray} {ret : Option FieldType} {ws : List Cond} {f : am_F} (S : CallFix p m c cc nL s args Ts own) (hK : va_K D cl tys s) (hN : am_NW s) (hty : ∀ t ty, am_ty t = some ty → tys[t]? = some (cy t, ty)) (hA : ∀ q, s.heap.size ≤ q → A q) (hSd : am_Sd l cl y ws fr lo f) (hci : cl[ci]? = some (C, T, Nf))
    (cw : ∀ mc ms, CallW R s args own C x y bytes maxL ret ws { frames := fr, cells := mc, slots := ms, locals := lo } mc ms na) (hdg : decode cc pc = .ok (.invokevirtual x, 3)) : am_cOK p l e R s m args below meth c A D cl cy sb nL n0 s0 pc (na + 1) (some ci) f := by
  intro N as rest h h' r al H locs lk Q hf hn hrc h8 hI hva hvr hlk hn0 hs0 hg1 hg2 hc1 hc2 kk
  obtain ⟨a, as', fl, rfl, hd⟩ := am_rc_some hrc
  have hM := hSd D cy tys N _ h h' r al sb H.size hty hf hva hI.2.2.2.1 hI.2.2.2.2
  have hp : PreV s H C (al a) (am_Pre D cl cy tys al sb (.ref a :: as') h H.size) (as'.map (am_rn al sb)) := ⟨am_blind, va_recv hK hI.1 hci (am_wl_at hd), (am_pre hK hN hI).2⟩
  rw [am_rev]
  refine am_callQ (mc := h'.1.length - h.1.length) (ms := am_slt h'.1 - am_slt h.1) (va_runV S hM (cw _ _) hp rfl (by simpa using hn) hlk (by simp [am_rn]) (lv_room (by rw [am_lenw hvr]; exact h8)) hdg ⟨by omega, by omega⟩) hI hA hvr (fun al' H1 locs1 e1 e2 e3 => ?_)
  exact W.cs (by omega) (by omega) (kk al' H1 locs1 e1 e2 e3)
theorem am_cVN {x ci fr lo maxL na : Nat} {C host : String} {T : u_T} {Nf : Nat} {y : MethodName} {bytes : ByteArray} {ret : Option FieldType} {ws : List Cond} {f : am_F} (S : CallFix p m c cc nL s args Ts own) (hK : va_K D cl tys s) (hN : am_NW s) (hty : ∀ t ty, am_ty t = some ty → tys[t]? = some (cy t, ty)) (hA : ∀ q, s.heap.size ≤ q → A q) (hSd : am_Sd l cl y ws fr lo f) (hci : cl[ci]? = some (C, T, Nf))
    (cw : ∀ mc ms, va_CN R s args own x y host bytes maxL ret ws { frames := fr, cells := mc, slots := ms, locals := lo } mc ms na ∧ (Cond.instanceMethod y).before args s = true ∧ (Cond.selects C y y).before args s = true) (hdg : decode cc pc = .ok (.invokevirtual x, 3)) : am_cOK p l e R s m args below meth c A D cl cy sb nL n0 s0 pc (na + 1) (some ci) f := by
  intro N as rest h h' r al H locs lk Q hf hn hrc h8 hI hva hvr hlk hn0 hs0 hg1 hg2 hc1 hc2 kk
  obtain ⟨a, as', fl, rfl, hd⟩ := am_rc_some hrc
  have hM := hSd D cy tys N _ h h' r al sb H.size hty hf hva hI.2.2.2.1 hI.2.2.2.2
  have hp : PreV s H C (al a) (am_Pre D cl cy tys al sb (.ref a :: as') h H.size) (as'.map (am_rn al sb)) := ⟨am_blind, va_recv hK hI.1 hci (am_wl_at hd), (am_pre hK hN hI).2⟩
  rw [am_rev]
  refine am_callQ (mc := h'.1.length - h.1.length) (ms := am_slt h'.1 - am_slt h.1) (va_runVN S hM (cw _ _) hp rfl (by simpa using hn) hlk (by simp [am_rn]) (lv_room (by rw [am_lenw hvr]; exact h8)) hdg ⟨by omega, by omega⟩) hI hA hvr (fun al' H1 locs1 e1 e2 e3 => ?_)
  exact W.cs (by omega) (by omega) (kk al' H1 locs1 e1 e2 e3)
theorem am_cS {x fr lo maxL na : Nat} {y : MethodName} {bytes : ByteArray} {ret : Option FieldType} {ws : List Cond} {f : am_F} (S : CallFix p m c cc nL s args Ts own) (hK : va_K D cl tys s) (hN : am_NW s) (hty : ∀ t ty, am_ty t = some ty → tys[t]? = some (cy t, ty)) (hA : ∀ q, s.heap.size ≤ q → A q) (hSd : am_Sd l cl y ws fr lo f)
    (cw : ∀ mc ms, CallB R s args own x y bytes maxL ret ws { frames := fr, cells := mc, slots := ms, locals := lo } mc ms na ∧ (Cond.static y).before args s = true) (hdg : decode cc pc = .ok (.invokestatic x, 3)) : am_cOK p l e R s m args below meth c A D cl cy sb nL n0 s0 pc na none f := by
  intro N as rest h h' r al H locs lk Q hf hn hrc h8 hI hva hvr hlk hn0 hs0 hg1 hg2 hc1 hc2 kk
  have hM := hSd D cy tys N _ h h' r al sb H.size hty hf hva hI.2.2.2.1 hI.2.2.2.2
  rw [am_rev]
  refine am_callQ (mc := h'.1.length - h.1.length) (ms := am_slt h'.1 - am_slt h.1) (va_runS S hM (cw _ _) (am_pre hK hN hI) rfl (by simpa using hn) hlk rfl (lv_room (by rw [am_lenw hvr]; exact h8)) hdg ⟨by omega, by omega⟩) hI hA hvr (fun al' H1 locs1 e1 e2 e3 => ?_)
  exact W.cs (by omega) (by omega) (kk al' H1 locs1 e1 e2 e3)
theorem am_cSN {x fr lo maxL na : Nat} {host : String} {y : MethodName} {bytes : ByteArray} {ret : Option FieldType} {ws : List Cond} {f : am_F} (S : CallFix p m c cc nL s args Ts own) (hK : va_K D cl tys s) (hN : am_NW s) (hty : ∀ t ty, am_ty t = some ty → tys[t]? = some (cy t, ty)) (hA : ∀ q, s.heap.size ≤ q → A q) (hSd : am_Sd l cl y ws fr lo f)
    (cw : ∀ mc ms, va_CN R s args own x y host bytes maxL ret ws { frames := fr, cells := mc, slots := ms, locals := lo } mc ms na ∧ (Cond.static y).before args s = true ∧ True) (hdg : decode cc pc = .ok (.invokestatic x, 3)) : am_cOK p l e R s m args below meth c A D cl cy sb nL n0 s0 pc na none f := by
  intro N as rest h h' r al H locs lk Q hf hn hrc h8 hI hva hvr hlk hn0 hs0 hg1 hg2 hc1 hc2 kk
  have hM := hSd D cy tys N _ h h' r al sb H.size hty hf hva hI.2.2.2.1 hI.2.2.2.2
  rw [am_rev]
  refine am_callQ (mc := h'.1.length - h.1.length) (ms := am_slt h'.1 - am_slt h.1) (va_runSN S hM (cw _ _) (am_pre hK hN hI) rfl (by simpa using hn) hlk rfl (lv_room (by rw [am_lenw hvr]; exact h8)) hdg ⟨by omega, by omega⟩) hI hA hvr (fun al' H1 locs1 e1 e2 e3 => ?_)
  exact W.cs (by omega) (by omega) (kk al' H1 locs1 e1 e2 e3)
theorem am_ref1 {h : am_H} {as : List Value} {na ci : Nat} (hn : as.length = na + 1) (hr : am_rc h as (some ci) = true) : ∃ a as', as = .ref a :: as' ∧ as'.length = na := by
  obtain ⟨a, as', fl, rfl, -⟩ := am_rc_some hr
  exact ⟨a, as', rfl, by simpa using hn⟩
theorem am_cI {x ci fr lo maxL na : Nat} {y : MethodName} {bytes : ByteArray} {ws : List Cond} {f : am_F} (S : CallFix p m c cc nL s args Ts own) (hK : va_K D cl tys s) (hN : am_NW s) (hty : ∀ t ty, am_ty t = some ty → tys[t]? = some (cy t, ty)) (hA : ∀ q, s.heap.size ≤ q → A q) (hSd : am_Sd l cl y ws fr lo f)
    (cw : ∀ mc ms, CallB R s args own x y bytes maxL none ws { frames := fr, cells := mc, slots := ms, locals := lo } mc ms na ∧ y.name = "<init>" ∧ (Cond.instanceMethod y).before args s = true) (hdg : decode cc pc = .ok (.invokespecial x, 3)) : am_cOK p l e R s m args below meth c A D cl cy sb nL n0 s0 pc (na + 1) (some ci) f := by
  intro N as rest h h' r al H locs lk Q hf hn hrc h8 hI hva hvr hlk hn0 hs0 hg1 hg2 hc1 hc2 kk
  obtain ⟨a, as', rfl, hn'⟩ := am_ref1 hn hrc
  have hM := hSd D cy tys N _ h h' r al sb H.size hty hf hva hI.2.2.2.1 hI.2.2.2.2
  rw [am_rev]
  refine am_callQ (mc := h'.1.length - h.1.length) (ms := am_slt h'.1 - am_slt h.1) (va_runI (b := al a) (As := as'.map (am_rn al sb)) S hM (cw _ _) (am_pre hK hN hI) rfl (by simpa using hn') hlk (by simp [am_rn]) (lv_room (by rw [am_lenw hvr]; exact h8)) hdg ⟨by omega, by omega⟩) hI hA hvr (fun al' H1 locs1 e1 e2 e3 => ?_)
  exact W.cs (by omega) (by omega) (kk al' H1 locs1 e1 e2 e3)
theorem am_cIN {x ci fr lo maxL na : Nat} {host : String} {y : MethodName} {bytes : ByteArray} {ws : List Cond} {f : am_F} (S : CallFix p m c cc nL s args Ts own) (hK : va_K D cl tys s) (hN : am_NW s) (hty : ∀ t ty, am_ty t = some ty → tys[t]? = some (cy t, ty)) (hA : ∀ q, s.heap.size ≤ q → A q) (hSd : am_Sd l cl y ws fr lo f)
    (cw : ∀ mc ms, va_CN R s args own x y host bytes maxL none ws { frames := fr, cells := mc, slots := ms, locals := lo } mc ms na ∧ y.name = "<init>" ∧ (Cond.instanceMethod y).before args s = true) (hdg : decode cc pc = .ok (.invokespecial x, 3)) : am_cOK p l e R s m args below meth c A D cl cy sb nL n0 s0 pc (na + 1) (some ci) f := by
  intro N as rest h h' r al H locs lk Q hf hn hrc h8 hI hva hvr hlk hn0 hs0 hg1 hg2 hc1 hc2 kk
  obtain ⟨a, as', rfl, hn'⟩ := am_ref1 hn hrc
  have hM := hSd D cy tys N _ h h' r al sb H.size hty hf hva hI.2.2.2.1 hI.2.2.2.2
  rw [am_rev]
  refine am_callQ (mc := h'.1.length - h.1.length) (ms := am_slt h'.1 - am_slt h.1) (va_runIN (b := al a) (As := as'.map (am_rn al sb)) S hM (cw _ _) (am_pre hK hN hI) rfl (by simpa using hn') hlk (by simp [am_rn]) (lv_room (by rw [am_lenw hvr]; exact h8)) hdg ⟨by omega, by omega⟩) hI hA hvr (fun al' H1 locs1 e1 e2 e3 => ?_)
  exact W.cs (by omega) (by omega) (kk al' H1 locs1 e1 e2 e3)
end AMC
end
section
/-! The two library calls that are no methods of ours; a whole run. -/
def am_obj : am_F := fun _ as h => match as with
  | [.ref _] => some (none, h)
  | _ => none
def am_cp (s : am_S) (a sp b dp n : Nat) : am_S := fun i => if i = b then va_cpy (s a) (s b) sp dp n else s i
def am_cpy : am_F := fun _ as h => match as with
  | [.ref a, .int sp, .ref b, .int dp, .int n] => (match h.1[a]?, h.1[b]? with
    | some (.inl (t, n0, none)), some (.inl (t', n1, none)) => if (t = 0 ∧ t' = 0) ∧ (¬ sp < 0 ∧ ¬ dp < 0 ∧ ¬ n < 0) ∧ sp.toNatClampNeg + n.toNatClampNeg ≤ n0 ∧ dp.toNatClampNeg + n.toNatClampNeg ≤ n1 then some (none, (h.1, am_cp h.2 a sp.toNatClampNeg b dp.toNatClampNeg n.toNatClampNeg)) else none
    | _, _ => none)
  | _ => none
theorem am_obj_some {N : Nat} {as : List Value} {h h' : am_H} {r : Option Value} (e : am_obj N as h = some (r, h')) : ∃ a, as = [.ref a] ∧ r = none ∧ h' = h := by
  unfold am_obj at e
  split at e
  · cases e
    exact ⟨_, rfl, rfl, rfl⟩
  · cases e
theorem am_cpy_some {N : Nat} {as : List Value} {h h' : am_H} {r : Option Value} (e : am_cpy N as h = some (r, h')) : ∃ a sp b dp n n0 n1, as = [.ref a, .int sp, .ref b, .int dp, .int n] ∧ h.1[a]? = some (.inl (0, n0, none)) ∧ h.1[b]? = some (.inl (0, n1, none)) ∧ (¬ sp < 0 ∧ ¬ dp < 0 ∧ ¬ n < 0) ∧ sp.toNatClampNeg + n.toNatClampNeg ≤ n0 ∧ dp.toNatClampNeg + n.toNatClampNeg ≤ n1 ∧ r = none ∧ h' = (h.1, am_cp h.2 a sp.toNatClampNeg b dp.toNatClampNeg n.toNatClampNeg) := by
  unfold am_cpy at e
  split at e
  · split at e
    · rename_i t n0 t' n1 h1 h2
      split at e
      · rename_i hc
        obtain ⟨⟨rfl, rfl⟩, h3, h4, h5⟩ := hc
        cases e
        exact ⟨_, _, _, _, _, _, _, rfl, h1, h2, h3, h4, h5, rfl, rfl⟩
      · cases e
    · cases e
  · cases e
theorem am_obj_mono : am_mono am_obj := fun _ _ _ _ _ _ e => e
theorem am_cpy_mono : am_mono am_cpy := fun _ _ _ _ _ _ e => e
theorem am_obj_grow : am_grow am_obj := fun N as h r h' e => by
  obtain ⟨a, -, -, rfl⟩ := am_obj_some e
  exact ⟨Nat.le_refl _, Nat.le_refl _⟩
theorem am_cpy_grow : am_grow am_cpy := fun N as h r h' e => by
  obtain ⟨_, _, _, _, _, _, _, -, -, -, -, -, -, -, rfl⟩ := am_cpy_some e
  exact ⟨Nat.le_refl _, Nat.le_refl _⟩
section AMR
variable {p : Program} {l : Launch} {e : Env} {R : Room} {s : State} {m : MethodId} {args : Array Value} {below : List Frame} {meth : Method} {c : Code}
variable {cc : ByteArray} {pc nL n0 s0 sb : Nat} {A : Nat → Prop} {D : va_G} {cl : List vw_C} {cy : Nat → ClassId} {tys : List (ClassId × FieldType)} {Ts : List Cond} {own : String} {M : am_M}
theorem am_cObj {x : Nat} {rc : Option Nat} (S : CallFix p m c cc nL s args Ts own) (hl : (Cond.methodLink own x Lib.objectInit).before args s = true) (hi : (Cond.instanceMethod Lib.objectInit).before args s = true) (hcd : (Cond.code Lib.objectInit ⟨#[0xb1]⟩ 1 none).before args s = true) (hR : 1 ≤ R.frames ∧ 20 ≤ R.locals) (hdg : decode cc pc = .ok (.invokespecial x, 3)) : am_cOK p l e R s m args below meth c A D cl cy sb nL n0 s0 pc 1 rc am_obj := by
  intro N as rest h h' r al H locs lk Q hf hn hrc h8 hI hva hvr hlk hn0 hs0 hg1 hg2 hc1 hc2 kk
  obtain ⟨a, rfl, rfl, rfl⟩ := am_obj_some hf
  obtain ⟨hx, hb, hml, ho, -⟩ := S
  refine W.objInit hx hb ho hl hi hcd rfl (hlk.trans hml.symm) (a := al a) (rest := rest.map (am_rn al sb)) rfl hdg hR.1 ?_ (kk al H locs (fun _ _ => rfl) hI (fun v hv => by cases hv))
  show 2 * 0 + _ + 12 ≤ _
  rw [am_lenw hvr]
  omega
theorem am_cCp {x : Nat} {rc : Option Nat} (S : CallFix p m c cc nL s args Ts own) (hK : va_K D cl tys s) (hty : ∀ t ty, am_ty t = some ty → tys[t]? = some (cy t, ty)) (h0 : am_ty 0 = some .int) (hl : (Cond.methodLink own x arraycopyName).before args s = true) (hnat : (Cond.native arraycopyName).before args s = true) (hstat : (Cond.static arraycopyName).before args s = true) (hini : (Cond.initialized "java/lang/System").before args s = true) (hR : 1 ≤ R.frames ∧ 26 ≤ R.locals) (hdg : decode cc pc = .ok (.invokestatic x, 3)) : am_cOK p l e R s m args below meth c A D cl cy sb nL n0 s0 pc 5 rc am_cpy := by
  intro N as rest h h' r al H locs lk Q hf hn hrc h8 hI hva hvr hlk hn0 hs0 hg1 hg2 hc1 hc2 kk
  obtain ⟨a, sp, b, dp, n, k0, k1, rfl, ha, hb1, ⟨h1, h2, h3⟩, h4, h5, rfl, rfl⟩ := am_cpy_some hf
  obtain ⟨hx, hb, hml, ho, -⟩ := S
  have wa := am_wl_at (cy := cy) (al := al) ha
  have wb := am_wl_at (cy := cy) (al := al) hb1
  refine va_copyi hx hb (hml.trans hlk.symm) ho hl hnat hstat hini hK hI.1 hI.2.1 hI.2.2.1 a b 0 0 wa wb (hty 0 _ h0) (hty 0 _ h0) rfl h1 h2 h3 h4 h5 (fun _ _ => rfl) hR.1 ?_ hdg (fun H1 locs1 hP hD hS => kk al H1 locs1 (fun _ _ => rfl) ?_ (fun v hv => by cases hv))
  · show ((rest.map (am_rn al sb)).map fun v => v.category).sum + _ ≤ _
    rw [am_lenw hvr]
    have : nativeFrameWords "java/lang/System" "arraycopy" 5 = 7 := by decide
    omega
  · obtain ⟨-, -, -, hw, hz⟩ := hI
    have hbl := (List.getElem?_eq_some_iff.mp hb1).1
    have ee := am_wl_set (h' := (h.1, am_cp h.2 a sp.toNatClampNeg b dp.toNatClampNeg n.toNatClampNeg)) (cy := cy) (al := al) (x := .inl (cy 0, k1, .inl (va_cpy (h.2 a) (h.2 b) sp.toNatClampNeg dp.toNatClampNeg n.toNatClampNeg))) hb1 (fun _ _ => rfl) (fun j hj => by show (if j = b then _ else _) = _; rw [if_neg hj]) hb1 (by simp only [am_ex, am_cp, if_pos]) hw
    refine ⟨by rw [ee]; exact hP, by rw [ee]; exact hD, hS, hw, fun j k hj => ?_⟩
    show (if j = b then _ else h.2 j) k = 0
    rw [if_neg (by have : h.1.length ≤ j := hj; omega)]
    exact hz j k hj
/-- a grid is made -/
def am_GOK (p : Program) (l : Launch) (e : Env) (R : Room) (s : State) (m : MethodId) (args : Array Value) (below : List Frame) (meth : Method) (c : Code) (A : Nat → Prop) (D : va_G) (cl : List vw_C) (cy : Nat → ClassId) (nL n0 s0 pc t : Nat) : Prop :=
  ∀ (n k : Int32) (restK : List Value) (h : am_H) (al : Nat → Nat) (H : Heap) (locs : List Loc) (lk : Array Slot) (Q : State → Prop), ¬ am_out n 1000 → ¬ am_out k 1000 → am_I A D cl cy s.heap al h H locs → lk.size = nL → n0 ≤ h.1.length → s0 ≤ am_slt h.1 → h.1.length + 1 + n.toNatClampNeg ≤ n0 + R.cells → am_slt h.1 + n.toNatClampNeg + n.toNatClampNeg * k.toNatClampNeg ≤ s0 + R.slots →
    (∀ (al' : Nat → Nat) (H1 : Heap), (∀ i, i < h.1.length → al' i = al i) → am_I A D cl cy s.heap al' (h.1 ++ ([.inl (t, n.toNatClampNeg, some ((List.range n.toNatClampNeg).map fun i => some (h.1.length + 1 + i)))] ++ List.replicate n.toNatClampNeg (.inl (0, k.toNatClampNeg, none))), h.2) H1 locs →
      W p l e R s m args below meth c H1 locs (h.1.length + 1 + n.toNatClampNeg - n0) (am_slt h.1 + n.toNatClampNeg + n.toNatClampNeg * k.toNatClampNeg - s0) Q (F0 m (pc + 4) lk (.ref (al' h.1.length) :: restK))) →
    W p l e R s m args below meth c H locs (h.1.length - n0) (am_slt h.1 - s0) Q (F0 m pc lk (.int k :: .int n :: restK))
/-- what the tables must say of an instruction -/
def am_V (p : Program) (l : Launch) (e : Env) (R : Room) (s : State) (m : MethodId) (args : Array Value) (below : List Frame) (meth : Method) (c : Code) (cc : ByteArray) (Ts : List Cond) (own : String) (A : Nat → Prop) (D : va_G) (cl : List vw_C) (cy : Nat → ClassId) (sb nL n0 s0 : Nat) (M : am_M) (pc : Nat) (i : Instr) : Prop :=
  (∃ len, decode cc pc = .ok (i, len) ∧ (am_len i = 0 ∨ am_len i = len)) ∧ am_bd nL pc i = true ∧ (match i with
    | .getfield x => ∀ q, am_fld M x = some q → am_gOK cl Ts own args s x q.1 q.2.1
    | .putfield x => ∀ q, am_fld M x = some q → am_pOK cl Ts own args s meth x q.1 q.2.1 q.2.2
    | .new x => ∀ q, am_new M x = some q → am_nOK cl Ts own args s x q.1 q.2
    | .newarray t => (t = .int → (Cond.arrayClass .int).before args s = true) ∧ (t = .boolean → (Cond.arrayClass .boolean).before args s = true)
    | .anewarray x => ∀ t, am_arr M x = some t → ∃ C, am_ty t = some (.object C) ∧ (Cond.classLink own x C).before args s = true ∧ (Cond.arrayOver (.object C)).before args s = true
    | .multianewarray x _ => ∀ t, am_arr M x = some t → am_GOK p l e R s m args below meth c A D cl cy nL n0 s0 pc t
    | .invokevirtual x => ∀ q, am_cal M x = some q → am_cOK p l e R s m args below meth c A D cl cy sb nL n0 s0 pc q.1 q.2.1 q.2.2
    | .invokespecial x => ∀ q, am_cal M x = some q → am_cOK p l e R s m args below meth c A D cl cy sb nL n0 s0 pc q.1 q.2.1 q.2.2
    | .invokestatic x => ∀ q, am_cal M x = some q → am_cOK p l e R s m args below meth c A D cl cy sb nL n0 s0 pc q.1 q.2.1 q.2.2
    | _ => True)
end AMR
end
section
/-! A whole run, by its fuel. -/
section AMZ
variable {p : Program} {l : Launch} {e : Env} {R : Room} {s : State} {m : MethodId} {args : Array Value} {below : List Frame} {meth : Method} {c : Code}
variable {cc : ByteArray} {pc nL n0 s0 sb x t : Nat} {A : Nat → Prop} {D : va_G} {cl : List vw_C} {cy : Nat → ClassId} {tys : List (ClassId × FieldType)} {Ts : List Cond} {own : String} {M : am_M} {st st' ls : List Value} {h h' : am_H} {i : Instr} {al : Nat → Nat} {H : Heap} {locs : List Loc} {lk : Array Slot} {Q : State → Prop}
theorem am_gfF_inv (he : am_gfF M x st h = some (st', h')) : ∃ q i r v, am_fld M x = some q ∧ st = .ref i :: r ∧ am_gf h i q.1 q.2.1 = some v ∧ st' = v :: r ∧ h' = h := by
  unfold am_gfF at he
  split at he
  · rename_i q i r hq
    split at he
    · rename_i v hv
      cases he
      exact ⟨q, i, r, v, hq, rfl, hv, rfl, rfl⟩
    · cases he
  · cases he
theorem am_pfF_inv (he : am_pfF M x st h = some (st', h')) : ∃ q v i, am_fld M x = some q ∧ st = v :: .ref i :: st' ∧ am_pf h i q.1 q.2.1 q.2.2 v = some h' := by
  unfold am_pfF at he
  split at he
  · rename_i q v i r hq
    split at he
    · rename_i v hv
      cases he
      exact ⟨q, _, i, hq, rfl, hv⟩
    · cases he
  · cases he
theorem am_ldF_inv (he : am_ldF M t st h = some (st', h')) : (∃ y i r v, st = .int y :: .ref i :: r ∧ am_ld h t i y = some v ∧ st' = .int v :: r ∧ h' = h) ∨ ∃ y i r v, st = .int y :: .retAddr i :: r ∧ t = 0 ∧ am_sld M y = some v ∧ st' = .int v :: r ∧ h' = h := by
  unfold am_ldF at he
  split at he
  · split at he
    · rename_i v hv
      cases he
      exact Or.inl ⟨_, _, _, v, rfl, hv, rfl, rfl⟩
    · cases he
  · split at he
    · rename_i ht
      split at he
      · rename_i v hv
        cases he
        exact Or.inr ⟨_, _, _, v, rfl, ht, hv, rfl, rfl⟩
      · cases he
    · cases he
  · cases he
theorem am_sdF_inv (he : am_sdF t st h = some (st', h')) : ∃ v y i, st = .int v :: .int y :: .ref i :: st' ∧ am_sd h t i y v = some h' := by
  unfold am_sdF at he
  split at he
  · split at he
    · rename_i v hv
      cases he
      exact ⟨_, _, _, rfl, hv⟩
    · cases he
  · cases he
theorem am_laF_inv (he : am_laF st h = some (st', h')) : ∃ y i r j, st = .int y :: .ref i :: r ∧ am_la h i y = some j ∧ st' = .ref j :: r ∧ h' = h := by
  unfold am_laF at he
  split at he
  · split at he
    · rename_i v hv
      cases he
      exact ⟨_, _, _, _, rfl, hv, rfl, rfl⟩
    · cases he
  · cases he
theorem am_saF_inv (he : am_saF st h = some (st', h')) : ∃ j y i, st = .ref j :: .int y :: .ref i :: st' ∧ am_sa h i y j = some h' := by
  unfold am_saF at he
  split at he
  · split at he
    · rename_i v hv
      cases he
      exact ⟨_, _, _, rfl, hv⟩
    · cases he
  · cases he
theorem am_alF_inv (he : am_alF M st h = some (st', h')) : ∃ q i r, am_scr M = some q ∧ st = .retAddr i :: r ∧ st' = .int (Int32.ofNat q.1) :: r ∧ h' = h := by
  unfold am_alF at he
  split at he
  · rename_i q i r hq
    cases he
    exact ⟨q, i, r, hq, rfl, rfl, rfl⟩
  · cases he
theorem am_mkI_inv (he : am_mkI t st h = some (st', h')) : ∃ n r, st = .int n :: r ∧ ¬ am_out n 1000 ∧ st' = .ref h.1.length :: r ∧ h' = (h.1 ++ [.inl (t, n.toNatClampNeg, none)], h.2) := by
  unfold am_mkI at he
  split at he
  · split at he
    · cases he
    · rename_i hn
      cases he
      exact ⟨_, _, rfl, hn, rfl, rfl⟩
  · cases he
theorem am_mkA_inv (he : am_mkA M x st h = some (st', h')) : ∃ t n r, am_arr M x = some t ∧ st = .int n :: r ∧ ¬ am_out n 1000 ∧ st' = .ref h.1.length :: r ∧ h' = (h.1 ++ [.inl (t, n.toNatClampNeg, some (List.replicate n.toNatClampNeg none))], h.2) := by
  unfold am_mkA at he
  split at he
  · rename_i t n r hq
    split at he
    · cases he
    · rename_i hn
      cases he
      exact ⟨t, n, r, hq, rfl, hn, rfl, rfl⟩
  · cases he
theorem am_mkG_inv (he : am_mkG M x st h = some (st', h')) : ∃ t k n r, am_arr M x = some t ∧ st = .int k :: .int n :: r ∧ ¬ am_out n 1000 ∧ ¬ am_out k 1000 ∧ st' = .ref h.1.length :: r ∧ h' = (h.1 ++ ([.inl (t, n.toNatClampNeg, some ((List.range n.toNatClampNeg).map fun i => some (h.1.length + 1 + i)))] ++ List.replicate n.toNatClampNeg (.inl (0, k.toNatClampNeg, none))), h.2) := by
  unfold am_mkG at he
  split at he
  · rename_i t k n r hq
    split at he
    · cases he
    · rename_i hn
      cases he
      exact ⟨t, k, n, r, hq, rfl, fun q => hn (Or.inl q), fun q => hn (Or.inr q), rfl, rfl⟩
  · cases he
theorem am_mkO_inv (he : am_mkO M x st h = some (st', h')) : ∃ q, am_new M x = some q ∧ st' = .ref h.1.length :: st ∧ h' = (h.1 ++ [.inr q], h.2) := by
  unfold am_mkO at he
  split at he
  · rename_i q hq
    cases he
    exact ⟨q, hq, rfl, rfl⟩
  · cases he
theorem am_pf_grow {a ci k kd : Nat} {v : Value} (he : am_pf h a ci k kd v = some h') : h'.1.length = h.1.length ∧ am_slt h'.1 = am_slt h.1 := by
  unfold am_pf at he
  split at he
  · rename_i q hd
    split at he
    · split at he
      · cases he; exact ⟨rfl, rfl⟩
      · split at he
        · cases he; exact ⟨rfl, rfl⟩
        · cases he
      · cases he
        exact ⟨List.length_set .., am_slt_set hd (by simp [am_sz])⟩
      · cases he
    · cases he
  · cases he
theorem am_sd_grow {a : Nat} {y v : Int32} (he : am_sd h t a y v = some h') : h'.1 = h.1 := by
  unfold am_sd at he
  split at he
  · split at he
    · cases he; rfl
    · cases he
  · cases he
theorem am_sa_grow {a j : Nat} {y : Int32} (he : am_sa h a y j = some h') : h'.1.length = h.1.length ∧ am_slt h'.1 = am_slt h.1 := by
  unfold am_sa at he
  split at he
  · rename_i t n rs q hd hj
    split at he
    · cases he
    · cases he
      exact ⟨List.length_set .., am_slt_set hd rfl⟩
  · cases he
theorem am_slt_grid (t n k L : Nat) : am_slt ([.inl (t, n, some ((List.range n).map fun i => some (L + 1 + i)))] ++ List.replicate n (.inl (0, k, none))) = n + n * k := by
  simp [am_slt, am_sz]
theorem am_X_grow (he : am_X M i st h = some (st', h')) : h.1.length ≤ h'.1.length ∧ am_slt h.1 ≤ am_slt h'.1 := by
  have ap : ∀ tq : List am_D, h.1.length ≤ (h.1 ++ tq).length ∧ am_slt h.1 ≤ am_slt (h.1 ++ tq) := fun tq => by
    rw [am_slt_app, List.length_append]
    exact ⟨by omega, by omega⟩
  cases i with
  | getfield x => obtain ⟨_, _, _, _, -, -, -, -, rfl⟩ := am_gfF_inv he; exact ⟨Nat.le_refl _, Nat.le_refl _⟩
  | putfield x => obtain ⟨_, _, _, -, -, h1⟩ := am_pfF_inv he; have := am_pf_grow h1; omega
  | iaload => rcases am_ldF_inv he with ⟨_, _, _, _, -, -, -, rfl⟩ | ⟨_, _, _, _, -, -, -, -, rfl⟩ <;> exact ⟨Nat.le_refl _, Nat.le_refl _⟩
  | baload => rcases am_ldF_inv he with ⟨_, _, _, _, -, -, -, rfl⟩ | ⟨_, _, _, _, -, -, -, -, rfl⟩ <;> exact ⟨Nat.le_refl _, Nat.le_refl _⟩
  | iastore => obtain ⟨_, _, _, -, h1⟩ := am_sdF_inv he; rw [am_sd_grow h1]; exact ⟨Nat.le_refl _, Nat.le_refl _⟩
  | bastore => obtain ⟨_, _, _, -, h1⟩ := am_sdF_inv he; rw [am_sd_grow h1]; exact ⟨Nat.le_refl _, Nat.le_refl _⟩
  | aaload => obtain ⟨_, _, _, _, -, -, -, rfl⟩ := am_laF_inv he; exact ⟨Nat.le_refl _, Nat.le_refl _⟩
  | aastore => obtain ⟨_, _, _, -, h1⟩ := am_saF_inv he; have := am_sa_grow h1; omega
  | arraylength => obtain ⟨_, _, _, -, -, -, rfl⟩ := am_alF_inv he; exact ⟨Nat.le_refl _, Nat.le_refl _⟩
  | newarray aty =>
    cases aty with
    | int => obtain ⟨_, _, -, -, -, rfl⟩ := am_mkI_inv he; exact ap _
    | boolean => obtain ⟨_, _, -, -, -, rfl⟩ := am_mkI_inv he; exact ap _
    | _ => cases he
  | anewarray x => obtain ⟨_, _, _, -, -, -, -, rfl⟩ := am_mkA_inv he; exact ap _
  | multianewarray x k =>
    have he : (if k = 2 then am_mkG M x st h else none) = some (st', h') := he
    split at he
    · obtain ⟨_, _, _, _, -, -, -, -, -, rfl⟩ := am_mkG_inv he
      exact ap _
    · cases he
  | new x => obtain ⟨_, -, -, rfl⟩ := am_mkO_inv he; exact ap _
  | _ => cases he
theorem am_callF_inv {N : Nat} (he : am_callF M N x st h = some (st', h')) : ∃ q r as rest, am_cal M x = some q ∧ st = as.reverse ++ rest ∧ as.length = q.1 ∧ rest.length ≤ 8 ∧ am_rc h as q.2.1 = true ∧ q.2.2 N as h = some (r, h') ∧ st' = r.toList ++ rest := by
  unfold am_callF at he
  split at he
  · rename_i q hq
    split at he
    · cases he
    · rename_i hc
      split at he
      · rename_i z hz
        cases he
        refine ⟨q, z.1, (st.take q.1).reverse, st.drop q.1, hq, by rw [List.reverse_reverse, List.take_append_drop], ?_, ?_, ?_, hz, rfl⟩
        · rw [List.length_reverse, List.length_take]
          have : ¬ st.length < q.1 := fun z => hc (Or.inl (Or.inl z))
          omega
        · rw [List.length_drop]
          exact Nat.not_lt.mp fun z => hc (Or.inl (Or.inr z))
        · cases hr : am_rc h (st.take q.1).reverse q.2.1 with
          | true => rfl
          | false => exact absurd (Or.inr hr) hc
      · cases he
  · cases he
theorem am_Y_inv {N : Nat} (he : am_Y M N i st h = some (st', h')) : ∃ x, (i = .invokevirtual x ∨ i = .invokespecial x ∨ i = .invokestatic x) ∧ am_callF M N x st h = some (st', h') := by
  cases i with
  | invokevirtual x => exact ⟨x, Or.inl rfl, he⟩
  | invokespecial x => exact ⟨x, Or.inr (Or.inl rfl), he⟩
  | invokestatic x => exact ⟨x, Or.inr (Or.inr rfl), he⟩
  | _ => cases he
theorem am_stp_inv {N : Nat} {q : Nat × List Value × List Value × am_H} (he : am_stp M N i pc ls st h = some q) :
    (∃ ls' st', am_P i ls st = some (ls', st') ∧ q = (pc + am_len i, ls', st', h)) ∨ (∃ pc' st', am_J i pc st = some (pc', st') ∧ q = (pc', ls, st', h)) ∨ (∃ st' h', am_X M i st h = some (st', h') ∧ q = (pc + am_len i, ls, st', h')) ∨ ∃ st' h', am_Y M N i st h = some (st', h') ∧ q = (pc + 3, ls, st', h') := by
  unfold am_stp at he
  split at he
  · rename_i z hz
    cases he
    exact Or.inl ⟨_, _, hz, rfl⟩
  · split at he
    · rename_i z hz
      cases he
      exact Or.inr (Or.inl ⟨_, _, hz, rfl⟩)
    · split at he
      · rename_i z hz
        cases he
        exact Or.inr (Or.inr (Or.inl ⟨_, _, hz, rfl⟩))
      · split at he
        · rename_i z hz
          cases he
          exact Or.inr (Or.inr (Or.inr ⟨_, _, hz, rfl⟩))
        · cases he
theorem am_run_grow (hG : ∀ x q, am_cal M x = some q → am_grow q.2.2) {N : Nat} : ∀ (n pc : Nat) (ls st : List Value) (h : am_H) (r : Option Value) (h' : am_H), am_run M N n pc ls st h = some (r, h') → h.1.length ≤ h'.1.length ∧ am_slt h.1 ≤ am_slt h'.1
  | 0, _, _, _, _, _, _, he => by cases he
  | n + 1, pc, ls, st, h, r, h', he => by
    cases hc : am_code M pc with
    | none => rw [am_run, hc] at he; cases he
    | some i =>
      cases hr : am_R M i st with
      | some r =>
        rw [am_run_ret hc hr] at he
        cases he
        exact ⟨Nat.le_refl _, Nat.le_refl _⟩
      | none =>
        cases hs : am_stp M N i pc ls st h with
        | none => rw [am_run_no hc hr hs] at he; cases he
        | some q =>
          rw [am_run_step hc hr hs] at he
          have ih := am_run_grow hG n _ _ _ _ r h' he
          rcases am_stp_inv hs with ⟨_, _, h1, rfl⟩ | ⟨_, _, h1, rfl⟩ | ⟨_, _, h1, rfl⟩ | ⟨_, _, h1, rfl⟩
          · exact ih
          · exact ih
          · have := am_X_grow h1
            dsimp only at ih
            omega
          · obtain ⟨x, -, h2⟩ := am_Y_inv h1
            obtain ⟨q, r2, as, rest, h3, -, -, -, -, h4, -⟩ := am_callF_inv h2
            have := hG x q h3 _ _ _ _ _ h4
            dsimp only at ih
            omega
theorem am_fn_grow (hG : ∀ x q, am_cal M x = some q → am_grow q.2.2) : am_grow (am_fn M) := fun N as h r h' he => am_run_grow hG N 0 as [] h r h' he
end AMZ
end
section
section AMY
variable {p : Program} {l : Launch} {e : Env} {R : Room} {s : State} {m : MethodId} {args : Array Value} {below : List Frame} {meth : Method} {c : Code}
variable {cc : ByteArray} {nL n0 s0 sb : Nat} {A : Nat → Prop} {D : va_G} {cl : List vw_C} {cy : Nat → ClassId} {tys : List (ClassId × FieldType)} {Ts : List Cond} {own : String} {M : am_M} {Q : State → Prop}
theorem am_simX {pc : Nat} {st st' : List Value} {h h' : am_H} {i : Instr} {al : Nat → Nat} {H : Heap} {locs : List Loc} {lk : Array Slot} (hx : p.tables.exec = Jvm.exec) (hb : c.code = cc) (hts : ∀ w ∈ Ts, w.before args s = true) (hown : s.vm.findClass own = some m.cls) (hK : va_K D cl tys s) (hty : ∀ t ty, am_ty t = some ty → tys[t]? = some (cy t, ty)) (htc : ∀ t ci, am_tyc t = some ci → ∃ r : vw_C, cl[ci]? = some r ∧ am_ty t = some (.object r.1)) (hA : ∀ q, s.heap.size ≤ q → A q)
    (hsc : ∀ q, am_scr M = some q → va_X sb q.1 q.2 s s.heap ∧ sb < s.heap.size ∧ ¬ A sb) (hv : am_V p l e R s m args below meth c cc Ts own A D cl cy sb nL n0 s0 M pc i) (he : am_X M i st h = some (st', h')) (hI : am_I A D cl cy s.heap al h H locs) (hs : ∀ v ∈ st, am_vw h.1.length v) (hlk : lk.size = nL) (hn0 : n0 ≤ h.1.length) (hs0 : s0 ≤ am_slt h.1) (hc1 : h'.1.length ≤ n0 + R.cells) (hc2 : am_slt h'.1 ≤ s0 + R.slots)
    (kk : ∀ (al' : Nat → Nat) (H1 : Heap) (locs1 : List Loc), (∀ i, i < h.1.length → al' i = al i) → am_I A D cl cy s.heap al' h' H1 locs1 → (∀ v ∈ st', am_vw h'.1.length v) → W p l e R s m args below meth c H1 locs1 (h'.1.length - n0) (am_slt h'.1 - s0) Q (F0 m (pc + am_len i) lk (st'.map (am_rn al' sb)))) : W p l e R s m args below meth c H locs (h.1.length - n0) (am_slt h.1 - s0) Q (F0 m pc lk (st.map (am_rn al sb))) := by
  obtain ⟨⟨len, hd, hl⟩, -, hv⟩ := hv
  have up : ∀ (q : Nat) (r : List Value), (∀ v ∈ r, am_vw h.1.length v) → (∀ v ∈ (Value.ref h.1.length :: r), am_vw (h.1.length + 1) v) ∧ (Value.ref h.1.length :: r).map (am_rn (va_up al h.1.length q) sb) = .ref q :: r.map (am_rn al sb) := fun q r hr =>
    ⟨am_fa (Nat.lt_succ_self _) (fun v hv => am_vw_up (Nat.le_succ _) (hr v hv)), by
      rw [List.map_cons, am_rn_map hr (fun i hi => va_up_ne al q (by omega))]
      show Value.ref (va_up al h.1.length q h.1.length) :: _ = _
      rw [va_up_self]⟩
  have ag : ∀ (q i : Nat), i < h.1.length → va_up al h.1.length q i = al i := fun q i hi => va_up_ne al q (by omega)
  have hl1 : ∀ d : am_D, (h.1 ++ [d]).length = h.1.length + 1 := fun d => by simp
  have hs1 : ∀ d : am_D, am_slt (h.1 ++ [d]) = am_slt h.1 + am_sz d := fun d => by simp [am_slt]
  cases i with
  | getfield x =>
    have hl : 3 = len := by rcases hl with h | h; cases h; exact h
    subst hl
    obtain ⟨q, a, r, v, h1, rfl, h2, rfl, rfl⟩ := am_gfF_inv he
    have hs := List.forall_mem_cons.mp hs
    exact am_sim_gf hx hb hts hown hK hI (hv q h1) h2 hd (fun hw => kk al H locs (fun _ _ => rfl) hI (am_fa hw hs.2))
  | putfield x =>
    have hl : 3 = len := by rcases hl with h | h; cases h; exact h
    subst hl
    obtain ⟨q, v, a, h1, rfl, h2⟩ := am_pfF_inv he
    have hs := List.forall_mem_cons.mp hs
    have hs2 := List.forall_mem_cons.mp hs.2
    refine am_sim_pf hx hb hts hown hK hI (hv q h1) h2 hs.1 hd (fun H1 locs1 hI1 g1 g2 => ?_)
    exact W.cs (by rw [g1]) (by rw [g2]) (kk al H1 locs1 (fun _ _ => rfl) hI1 (by rw [g1]; exact hs2.2))
  | iaload =>
    have hl : 1 = len := by rcases hl with h | h; cases h; exact h
    subst hl
    rcases am_ldF_inv he with ⟨y, a, r, v, rfl, h2, rfl, rfl⟩ | ⟨y, a, r, v, rfl, -, h2, rfl, rfl⟩
    · have hs := List.forall_mem_cons.mp (List.forall_mem_cons.mp hs).2
      exact am_sim_ld hx hb hK hty hI h2 (Or.inl ⟨rfl, rfl, hd⟩) (kk al H locs (fun _ _ => rfl) hI (am_fa trivial hs.2))
    · have hs := List.forall_mem_cons.mp (List.forall_mem_cons.mp hs).2
      unfold am_sld at h2
      split at h2
      · rename_i q hq
        split at h2
        · cases h2
        · rename_i ho
          cases h2
          obtain ⟨g1, g2, g3⟩ := hsc q hq
          exact va_sld hx hb g1 g2 g3 hI.2.2.1 ho hd (kk al H locs (fun _ _ => rfl) hI (am_fa trivial hs.2))
      · cases h2
  | baload =>
    have hl : 1 = len := by rcases hl with h | h; cases h; exact h
    subst hl
    rcases am_ldF_inv he with ⟨y, a, r, v, rfl, h2, rfl, rfl⟩ | ⟨y, a, r, v, -, h2, -⟩
    · have hs := List.forall_mem_cons.mp (List.forall_mem_cons.mp hs).2
      exact am_sim_ld hx hb hK hty hI h2 (Or.inr ⟨rfl, rfl, hd⟩) (kk al H locs (fun _ _ => rfl) hI (am_fa trivial hs.2))
    · cases h2
  | iastore =>
    have hl : 1 = len := by rcases hl with h | h; cases h; exact h
    subst hl
    obtain ⟨v, y, a, rfl, h2⟩ := am_sdF_inv he
    have hs := List.forall_mem_cons.mp (List.forall_mem_cons.mp (List.forall_mem_cons.mp hs).2).2
    refine am_sim_sd hx hb hK hty hI h2 (Or.inl ⟨rfl, rfl, hd⟩) (fun H1 locs1 hI1 g1 => ?_)
    exact W.cs (by rw [g1]) (by rw [g1]) (kk al H1 locs1 (fun _ _ => rfl) hI1 (by rw [g1]; exact hs.2))
  | bastore =>
    have hl : 1 = len := by rcases hl with h | h; cases h; exact h
    subst hl
    obtain ⟨v, y, a, rfl, h2⟩ := am_sdF_inv he
    have hs := List.forall_mem_cons.mp (List.forall_mem_cons.mp (List.forall_mem_cons.mp hs).2).2
    refine am_sim_sd hx hb hK hty hI h2 (Or.inr ⟨rfl, rfl, hd⟩) (fun H1 locs1 hI1 g1 => ?_)
    exact W.cs (by rw [g1]) (by rw [g1]) (kk al H1 locs1 (fun _ _ => rfl) hI1 (by rw [g1]; exact hs.2))
  | aaload =>
    have hl : 1 = len := by rcases hl with h | h; cases h; exact h
    subst hl
    obtain ⟨y, a, r, j, rfl, h2, rfl, rfl⟩ := am_laF_inv he
    have hs := List.forall_mem_cons.mp (List.forall_mem_cons.mp hs).2
    exact am_sim_la hx hb hK hty hI h2 hd (fun hj => kk al H locs (fun _ _ => rfl) hI (am_fa hj hs.2))
  | aastore =>
    have hl : 1 = len := by rcases hl with h | h; cases h; exact h
    subst hl
    obtain ⟨j, y, a, rfl, h2⟩ := am_saF_inv he
    have hs := List.forall_mem_cons.mp (List.forall_mem_cons.mp (List.forall_mem_cons.mp hs).2).2
    refine am_sim_sa hx hb hK hty htc hI h2 hd (fun H1 locs1 hI1 g1 g2 => ?_)
    exact W.cs (by rw [g1]) (by rw [g2]) (kk al H1 locs1 (fun _ _ => rfl) hI1 (by rw [g1]; exact hs.2))
  | arraylength =>
    have hl : 1 = len := by rcases hl with h | h; cases h; exact h
    subst hl
    obtain ⟨q, a, r, hq, rfl, rfl, rfl⟩ := am_alF_inv he
    obtain ⟨g1, g2, g3⟩ := hsc q hq
    exact va_slen hx hb g1 g2 g3 hI.2.2.1 hd (kk al H locs (fun _ _ => rfl) hI (am_fa trivial (List.forall_mem_cons.mp hs).2))
  | newarray aty =>
    have hl : 2 = len := by rcases hl with h | h; cases h; exact h
    subst hl
    cases aty with
    | int =>
      obtain ⟨n, r, rfl, h1, rfl, rfl⟩ := am_mkI_inv he
      have hr := (List.forall_mem_cons.mp hs).2
      dsimp only at hc1 hc2 kk
      rw [hl1] at hc1 kk
      rw [hs1] at hc2 kk
      refine am_sim_newI (t := 0) hx hb hK hty hA hI h1 (Or.inl ⟨rfl, rfl, rfl⟩) rfl (hv.1 rfl) (by omega) (by simp only [am_sz] at hc2; omega) hd (fun q H1 hI1 => ?_)
      have := kk (va_up al h.1.length q) H1 locs (ag q) hI1 (up q r hr).1
      rw [(up q r hr).2] at this
      exact W.cs (by omega) (by simp only [am_sz]; omega) this
    | boolean =>
      obtain ⟨n, r, rfl, h1, rfl, rfl⟩ := am_mkI_inv he
      have hr := (List.forall_mem_cons.mp hs).2
      dsimp only at hc1 hc2 kk
      rw [hl1] at hc1 kk
      rw [hs1] at hc2 kk
      refine am_sim_newI (t := 1) hx hb hK hty hA hI h1 (Or.inr ⟨rfl, rfl, rfl⟩) rfl (hv.2 rfl) (by omega) (by simp only [am_sz] at hc2; omega) hd (fun q H1 hI1 => ?_)
      have := kk (va_up al h.1.length q) H1 locs (ag q) hI1 (up q r hr).1
      rw [(up q r hr).2] at this
      exact W.cs (by omega) (by simp only [am_sz]; omega) this
    | _ => cases he
  | anewarray x =>
    have hl : 3 = len := by rcases hl with h | h; cases h; exact h
    subst hl
    obtain ⟨t, n, r, ht, rfl, h1, rfl, rfl⟩ := am_mkA_inv he
    obtain ⟨C, g1, g2, g3⟩ := hv t ht
    have hr := (List.forall_mem_cons.mp hs).2
    dsimp only at hc1 hc2 kk
    rw [hl1] at hc1 kk
    rw [hs1] at hc2 kk
    refine am_sim_newA (t := t) hx hb hown hK hty hA hI h1 g1 g2 g3 (by omega) (by simp only [am_sz] at hc2; omega) hd (fun q H1 hI1 => ?_)
    have := kk (va_up al h.1.length q) H1 locs (ag q) hI1 (up q r hr).1
    rw [(up q r hr).2] at this
    exact W.cs (by omega) (by simp only [am_sz]; omega) this
  | multianewarray x k =>
    have hl : 4 = len := by rcases hl with h | h; cases h; exact h
    subst hl
    have he : (if k = 2 then am_mkG M x st h else none) = some (st', h') := he
    split at he
    · obtain ⟨t, k2, n, r, ht, rfl, h1, h2, rfl, rfl⟩ := am_mkG_inv he
      have hr := (List.forall_mem_cons.mp (List.forall_mem_cons.mp hs).2).2
      have e1 : ∀ tq : List am_D, (h.1 ++ tq).length = h.1.length + tq.length := fun tq => List.length_append
      dsimp only at hc1 hc2 kk
      rw [e1, List.length_append, List.length_replicate, List.length_singleton] at hc1 kk
      rw [am_slt_app, am_slt_grid] at hc2 kk
      refine hv t ht n k2 (r.map (am_rn al sb)) h al H locs lk Q h1 h2 hI hlk hn0 hs0 (by omega) (by omega) (fun al' H1 g1 hI1 => ?_)
      have := kk al' H1 locs g1 hI1 (am_fa (show h.1.length < _ by omega) (fun v hv => am_vw_up (by omega) (hr v hv)))
      rw [List.map_cons, am_rn_map hr g1] at this
      exact W.cs (by omega) (by omega) this
    · cases he
  | new x =>
    have hl : 3 = len := by rcases hl with h | h; cases h; exact h
    subst hl
    obtain ⟨q0, hq, rfl, rfl⟩ := am_mkO_inv he
    obtain ⟨ci, fl⟩ := q0
    dsimp only at hc1 hc2 kk
    rw [hl1] at hc1 kk
    rw [hs1] at hc2 kk
    refine am_sim_new (ci := ci) (fl := fl) hx hb hts hown hK hA hI (hv _ hq) (by omega) (by simp only [am_sz] at hc2; omega) hd (fun q H1 hI1 => ?_)
    have := kk (va_up al h.1.length q) H1 locs (ag q) hI1 (up q st hs).1
    rw [(up q st hs).2] at this
    exact W.cs (by omega) (by simp only [am_sz]; omega) this
  | _ => cases he
theorem am_sim (hx : p.tables.exec = Jvm.exec) (hb : c.code = cc) (hts : ∀ w ∈ Ts, w.before args s = true) (hown : s.vm.findClass own = some m.cls) (hK : va_K D cl tys s) (hty : ∀ t ty, am_ty t = some ty → tys[t]? = some (cy t, ty)) (htc : ∀ t ci, am_tyc t = some ci → ∃ r : vw_C, cl[ci]? = some r ∧ am_ty t = some (.object r.1)) (hA : ∀ q, s.heap.size ≤ q → A q)
    (hsc : ∀ q, am_scr M = some q → va_X sb q.1 q.2 s s.heap ∧ sb < s.heap.size ∧ ¬ A sb) (hV : ∀ pc i, am_code M pc = some i → am_V p l e R s m args below meth c cc Ts own A D cl cy sb nL n0 s0 M pc i) (hG : ∀ x q, am_cal M x = some q → am_grow q.2.2) {N : Nat} {rE : Option Value} {hE : am_H} {al0 : Nat → Nat} (hE1 : hE.1.length ≤ n0 + R.cells) (hE2 : am_slt hE.1 ≤ s0 + R.slots)
    (ret : ∀ (pc : Nat) (i : Instr) (st : List Value) (al : Nat → Nat) (H : Heap) (locs : List Loc) (lk : Array Slot), am_code M pc = some i → decode cc pc = .ok (i, 1) → am_R M i st = some rE → am_I A D cl cy s.heap al hE H locs → (∀ v ∈ st, am_vw hE.1.length v) → (∀ i, i < n0 → al i = al0 i) → W p l e R s m args below meth c H locs (hE.1.length - n0) (am_slt hE.1 - s0) Q (F0 m pc lk (st.map (am_rn al sb)))) :
    ∀ (n pc : Nat) (ls st : List Value) (h : am_H) (al : Nat → Nat) (H : Heap) (locs : List Loc) (lk : Array Slot), am_run M N n pc ls st h = some (rE, hE) → am_I A D cl cy s.heap al h H locs → am_L al sb h.1.length nL ls lk → (∀ v ∈ st, am_vw h.1.length v) → n0 ≤ h.1.length → s0 ≤ am_slt h.1 → (∀ i, i < n0 → al i = al0 i) →
      W p l e R s m args below meth c H locs (h.1.length - n0) (am_slt h.1 - s0) Q (F0 m pc lk (st.map (am_rn al sb)))
  | 0, _, _, _, _, _, _, _, _, he, _, _, _, _, _, _ => by cases he
  | n + 1, pc, ls, st, h, al, H, locs, lk, he, hI, hL, hs, hn0, hs0, hab => by
    cases hc : am_code M pc with
    | none => rw [am_run, hc] at he; cases he
    | some i =>
      have hv := hV pc i hc
      cases hr : am_R M i st with
      | some r =>
        rw [am_run_ret hc hr] at he
        cases he
        obtain ⟨⟨len, hd, hl⟩, -, -⟩ := hv
        have hl1 : len = 1 := by
          cases i with
          | ireturn => rcases hl with h | h; cases h; exact h.symm
          | areturn => rcases hl with h | h; cases h; exact h.symm
          | return_ => rcases hl with h | h; cases h; exact h.symm
          | _ => cases hr
        subst hl1
        exact ret pc i st al H locs lk hc hd hr hI hs hab
      | none =>
        cases hst : am_stp M N i pc ls st h with
        | none => rw [am_run_no hc hr hst] at he; cases he
        | some q =>
          rw [am_run_step hc hr hst] at he
          have gr := am_run_grow hG n _ _ _ _ rE hE he
          rcases am_stp_inv hst with ⟨ls', st', h1, rfl⟩ | ⟨pc', st', h1, rfl⟩ | ⟨st', h', h1, rfl⟩ | ⟨st', h', h1, rfl⟩
          · obtain ⟨⟨len, hd, hl⟩, hbd, -⟩ := hv
            have hd : decode cc pc = .ok (i, am_len i) := by
              rcases hl with hl | hl
              · cases i <;> first | (cases hl; done) | (cases h1; done) | skip
              · rw [hl]; exact hd
            exact am_simP hx hb hd hbd h1 hL hs (fun lk' hL' hs' => am_sim hx hb hts hown hK hty htc hA hsc hV hG hE1 hE2 ret n _ _ _ _ al H locs lk' he hI hL' hs' hn0 hs0 hab)
          · obtain ⟨⟨len, hd, hl⟩, hbd, -⟩ := hv
            exact am_simJ hx hb hd hl hbd h1 hs (fun hs' => am_sim hx hb hts hown hK hty htc hA hsc hV hG hE1 hE2 ret n _ _ _ _ al H locs lk he hI hL hs' hn0 hs0 hab)
          · have g1 := am_X_grow h1
            dsimp only at gr he
            exact am_simX hx hb hts hown hK hty htc hA hsc hv h1 hI hs hL.1 hn0 hs0 (by omega) (by omega) (fun al' H1 locs1 a1 hI1 hs1 => am_sim hx hb hts hown hK hty htc hA hsc hV hG hE1 hE2 ret n _ _ _ _ al' H1 locs1 lk he hI1 (am_L_up hL g1.1 a1) hs1 (by omega) (by omega) (fun i hi => (a1 i (by omega)).trans (hab i hi)))
          · obtain ⟨x, hi, h2⟩ := am_Y_inv h1
            obtain ⟨q, r2, as, rest, h3, rfl, h4, h5, h6, h7, rfl⟩ := am_callF_inv h2
            have g1 := hG x q h3 _ _ _ _ _ h7
            dsimp only at gr he
            have hco : am_cOK p l e R s m args below meth c A D cl cy sb nL n0 s0 pc q.1 q.2.1 q.2.2 := by
              rcases hi with rfl | rfl | rfl
              · exact hv.2.2 q h3
              · exact hv.2.2 q h3
              · exact hv.2.2 q h3
            have hs1 := List.forall_mem_append.mp hs
            refine hco N as rest h h' r2 al H locs lk Q h7 h4 h6 h5 hI (fun v hv => hs1.1 v (List.mem_reverse.mpr hv)) hs1.2 hL.1 hn0 hs0 g1.1 g1.2 (by omega) (by omega) (fun al' H1 locs1 a1 hI1 hr1 => ?_)
            refine am_sim hx hb hts hown hK hty htc hA hsc hV hG hE1 hE2 ret n _ _ _ _ al' H1 locs1 lk he hI1 (am_L_up hL g1.1 a1) ?_ (by omega) (by omega) (fun i hi => (a1 i (by omega)).trans (hab i hi))
            intro v hv
            rcases List.mem_append.mp hv with hv | hv
            · cases r2 with
              | none => cases hv
              | some w =>
                have : v = w := List.mem_singleton.mp hv
                subst this
                exact hr1 _ rfl
            · exact am_vw_up g1.1 (hs1.2 v hv)
end AMY
end
section
/-! A method's contract out of its run. -/
theorem am_args_mem : ∀ (vs : List Value) (j : Nat), (∀ v ∈ vs, v.category = 1) → ∀ (k : Nat) (v : Value), vs[k]? = some v → (j + k, v) ∈ lv_args j vs
  | [], _, _, k, v, h => by cases h
  | a :: vs, j, hc, k, v, h => by
    have h1 := List.forall_mem_cons.mp hc
    have e : lv_args j (a :: vs) = (j, a) :: lv_args (j + 1) vs := by
      simp [lv_args, h1.1]
    rw [e]
    cases k with
    | zero =>
      have h : some a = some v := h
      cases h
      exact List.mem_cons_self
    | succ k =>
      have := am_args_mem vs (j + 1) h1.2 k v h
      rw [show j + (k + 1) = j + 1 + k by omega]
      exact List.mem_cons_of_mem _ this
theorem am_sl_len : ∀ (vs : List Value), (∀ v ∈ vs, v.category = 1) → (lg_sl vs).length = vs.length
  | [], _ => rfl
  | a :: vs, h => by
    have h1 := List.forall_mem_cons.mp h
    have := am_sl_len vs h1.2
    simp [lg_sl, h1.1] at this ⊢
    omega
theorem am_entry {al : Nat → Nat} {sb n nL : Nat} {as : List Value} (hv : ∀ v ∈ as, am_vw n v) (hn : as.length ≤ nL) : am_L al sb n nL as ((lg_sl (as.map (am_rn al sb)) ++ List.replicate (nL - (lg_sl (as.map (am_rn al sb))).length) Slot.unset).toArray) := by
  have hc : ∀ v ∈ as.map (am_rn al sb), v.category = 1 := fun v h => by
    obtain ⟨w, hw, rfl⟩ := List.mem_map.mp h
    exact am_vw_cat al sb (hv w hw)
  have hl := lv_entry (as.map (am_rn al sb)) (n := nL) (by rw [am_sl_len _ hc, List.length_map]; exact hn)
  refine ⟨hl.1, hl.2.1, fun k v hk => ⟨?_, hv v (List.mem_of_getElem? hk)⟩⟩
  have := am_args_mem (as.map (am_rn al sb)) 0 hc k (am_rn al sb v) (by rw [List.getElem?_map, hk]; rfl)
  rw [Nat.zero_add] at this
  exact hl.2.2 _ this
theorem am_R_i {M : am_M} {st : List Value} {r : Option Value} (h : am_R M .ireturn st = some r) : ∃ x, st = [.int x] ∧ (am_ret M = 0 ∨ am_ret M = 1 ∧ (x = 0 ∨ x = 1)) ∧ r = some (.int x) := by
  unfold am_R at h
  dsimp only at h
  split at h
  · split at h
    · rename_i hq
      cases h
      exact ⟨_, rfl, hq, rfl⟩
    · cases h
  · cases h
theorem am_R_a {M : am_M} {st : List Value} {r : Option Value} (h : am_R M .areturn st = some r) : ∃ x, st = [.ref x] ∧ am_ret M = 3 ∧ r = some (.ref x) := by
  unfold am_R at h
  dsimp only at h
  split at h
  · split at h
    · rename_i hq
      cases h
      exact ⟨_, rfl, hq, rfl⟩
    · cases h
  · cases h
theorem am_R_v {M : am_M} {st : List Value} {r : Option Value} (h : am_R M .return_ st = some r) : st = [] ∧ am_ret M = 2 ∧ r = none := by
  unfold am_R at h
  dsimp only at h
  split at h
  · split at h
    · rename_i hq
      cases h
      exact ⟨rfl, hq, rfl⟩
    · cases h
  · cases h
/-- a method's function, with the number of its arguments -/
def am_mf (M : am_M) (na : Nat) : am_F := fun N as h => if as.length = na then am_run M N N 0 as [] h else none
theorem am_mf_mono {M : am_M} {na : Nat} (hM : am_ok M) : am_mono (am_mf M na) := by
  intro N N' as h x hN e
  unfold am_mf at e ⊢
  split at e
  · rename_i h1
    rw [if_pos h1]
    exact am_run_mono hM N N' N N' 0 as [] h x hN hN e
  · cases e
theorem am_mf_grow {M : am_M} {na : Nat} (hG : ∀ x q, am_cal M x = some q → am_grow q.2.2) : am_grow (am_mf M na) := by
  intro N as h r h' e
  unfold am_mf at e
  split at e
  · exact am_run_grow hG N 0 as [] h r h' e
  · cases e
theorem am_mf_C {M : am_M} {na : Nat} {as : List Value} {h : am_H} {Q : Option Value → am_H → Prop} (hn : as.length = na) : am_C (am_mf M na) as h Q ↔ am_W M 0 as [] h Q := by
  unfold am_C am_W am_mf
  simp only [if_pos hn]
abbrev am_ws (y : MethodName) (cc : ByteArray) (nL : Nat) (ret : Option FieldType) : List Jvm.Cond := .code y cc nL ret :: am_gt
/-- what a method's validity rests on -/
def am_Ctx (l : Launch) (y : MethodName) (cl : List vw_C) (cc : ByteArray) (nL fr lo : Nat) (M : am_M) : Prop :=
  ∀ (p : Program) (e : Env) (R : Room) (s : State) (m : MethodId) (args : Array Value) (below : List Frame) (meth : Method) (c : Code) (A : Nat → Prop) (D : va_G) (cy : Nat → ClassId) (tys : List (ClassId × FieldType)) (sb n0 s0 : Nat),
    CallFix p m c cc nL s args am_tb y.cls → am_NW s → meth.name = y.name → va_K D cl tys s → (∀ t ty, am_ty t = some ty → tys[t]? = some (cy t, ty)) → (∀ q, s.heap.size ≤ q → A q) → R.frames = fr → R.locals = lo →
    ∀ pc i, am_code M pc = some i → am_V p l e R s m args below meth c cc am_tb y.cls A D cl cy sb nL n0 s0 M pc i
theorem am_meth {l : Launch} {y : MethodName} {cl : List vw_C} {cc : ByteArray} {nL fr lo na : Nat} {ret : Option FieldType} {M : am_M} (hy : plainName y.cls = true) (hret : am_ret M = 0 ∧ ret = some .int ∨ am_ret M = 1 ∧ ret = some .boolean ∨ am_ret M = 2 ∧ ret = none ∨ am_ret M = 3 ∧ ∃ C, ret = some (.object C)) (hsc : am_scr M = none) (hna : na ≤ nL)
    (htc : ∀ t ci, am_tyc t = some ci → ∃ r : vw_C, cl[ci]? = some r ∧ am_ty t = some (.object r.1)) (hG : ∀ x q, am_cal M x = some q → am_grow q.2.2) (hV : am_Ctx l y cl cc nL fr lo M) : am_Sd l cl y (am_ws y cc nL ret) fr lo (am_mf M na) := by
  intro D cy tys N as h h' r al sb z hty he hva hwf hze
  unfold am_mf at he
  split at he
  · rename_i hn
    refine Met.ofW (cc := cc) (maxL := nL) (ret := ret) hy rfl ?_
    intro p e s m args below meth c s₁ B hml hv
    obtain ⟨rfl, hsz, hP, hK, hD0, hN⟩ := hv
    have hx := B.exec
    have hb := B.bytes
    have hr := B.returns
    have hts := am_all (fun w hw => atoms_spec (ws := am_ws y cc nL ret) B.pre w (List.mem_cons_of_mem _ hw)) hN
    have hown : s.vm.findClass y.cls = some m.cls := findClass_of_methodNamed B.named
    have hlocks := B.notSynchronized
    have hnm : meth.name = y.name := (name_of_methodNamed B.named B.method).1
    subst hsz
    have hA : ∀ q : Nat, s.heap.size ≤ q → va_A (am_wl cy al h) s.heap.size q := fun q h => Or.inr h
    have hI : am_I (va_A (am_wl cy al h) s.heap.size) D cl cy s.heap al h s.heap [] := ⟨hP, hD0.self, va_S.rf, hwf, hze⟩
    have gr := am_run_grow hG N 0 as [] h r h' he
    rw [lg_entry_eq]
    refine W.cs (Nat.sub_self h.1.length).symm (Nat.sub_self (am_slt h.1)).symm ?_
    refine am_sim (M := M) (N := N) (rE := r) (hE := h') (al0 := al) (n0 := h.1.length) (s0 := am_slt h.1) (sb := sb) hx hb hts hown hK hty htc hA (fun q hq => by rw [hsc] at hq; cases hq) (hV p e _ s m _ below meth c _ D cy tys sb _ _ ⟨hx, hb, hml, hown, hts⟩ hN hnm hK hty hA rfl rfl) hG (by show h'.1.length ≤ h.1.length + (h'.1.length - h.1.length); omega) (by show am_slt h'.1 ≤ am_slt h.1 + (am_slt h'.1 - am_slt h.1); omega) ?_ N 0 as [] h al s.heap [] _ he hI (am_entry hva (by omega)) (fun v hv => by cases hv) (Nat.le_refl _) (Nat.le_refl _) (fun _ _ => rfl)
    intro pc i st al' H locs lk hc hd hR hI' hs hab
    have fin : ∀ (t : State), t.heap = H → (∀ v, r = some v → am_vw h'.1.length v) → am_Q D cl cy al sb h h' r s.heap.size ((as.map (am_rn al sb)).toArray) s (.returned (r.map (am_rn al' sb))) t := fun t ht hvw =>
      ⟨⟨al', hab, rfl, hvw, by rw [ht]; exact hI'.1, hI'.2.1, hI'.2.2.2.1, hI'.2.2.2.2⟩, hI'.2.2.1.F ht⟩
    cases i with
    | ireturn =>
      obtain ⟨x, rfl, hq, rfl⟩ := am_R_i hR
      rcases hret with ⟨h1, h2⟩ | ⟨h1, h2⟩ | ⟨h1, -⟩ | ⟨h1, -⟩
      · exact W.iret hx hb (hr.trans h2) (fun t ht _ => fin t ht (fun v hv => by cases hv; trivial)) hI'.2.2.1.2.2 hd
      · have hq : x = 0 ∨ x = 1 := by
          rcases hq with hq | hq
          · rw [h1] at hq; cases hq
          · exact hq.2
        exact W.zret hx hb (hr.trans h2) (by show Value.int (x &&& 1) = _; rw [am_one_nar hq]) (fun t ht _ => fin t ht (fun v hv => by cases hv; trivial)) hI'.2.2.1.2.2 hd
      · rcases hq with hq | hq
        · rw [h1] at hq; cases hq
        · rw [h1] at hq; cases hq.1
      · rcases hq with hq | hq
        · rw [h1] at hq; cases hq
        · rw [h1] at hq; cases hq.1
    | areturn =>
      obtain ⟨x, rfl, hq, rfl⟩ := am_R_a hR
      rcases hret with ⟨h1, -⟩ | ⟨h1, -⟩ | ⟨h1, -⟩ | ⟨h1, C, h2⟩
      · rw [h1] at hq; cases hq
      · rw [h1] at hq; cases hq
      · rw [h1] at hq; cases hq
      · exact W.aret hx hb (hr.trans h2) (Or.inl ⟨C, rfl⟩) (Or.inr ⟨_, rfl⟩) (fun t ht _ => fin t ht (fun v hv => by cases hv; exact hs _ List.mem_cons_self)) hI'.2.2.1.2.2 hd
    | return_ =>
      obtain ⟨rfl, hq, rfl⟩ := am_R_v hR
      rcases hret with ⟨h1, -⟩ | ⟨h1, -⟩ | ⟨h1, h2⟩ | ⟨h1, -⟩
      · rw [h1] at hq; cases hq
      · rw [h1] at hq; cases hq
      · exact W.vret hx hb (hr.trans h2) (fun t ht _ => fin t ht (fun v hv => by cases hv)) hI'.2.2.1.2.2 hd
      · rw [h1] at hq; cases hq
    | _ => cases hR
  · cases he
end
section
/-! A method's tables, checked by a program. -/
def am_mk (co : List (Nat × Instr)) (fl : List (Nat × Nat × Nat × Nat)) (ca : List (Nat × Nat × Option Nat × am_F)) (ne : List (Nat × Nat × List (Option (Option Nat)))) (ar : List (Nat × Nat)) (sc : Option (Nat × (Nat → Int32))) (re : Nat) : am_M :=
  (fun x => co.lookup x, fun x => fl.lookup x, fun x => ca.lookup x, fun x => ne.lookup x, fun x => ar.lookup x, sc, re)
theorem am_lookup_mem {β : Type} {x : Nat} {b : β} : ∀ {L : List (Nat × β)}, L.lookup x = some b → (x, b) ∈ L
  | [], h => by cases h
  | (k, c) :: L, h => by
    unfold List.lookup at h
    split at h
    · rename_i hk
      cases h
      have hk : x = k := by simpa using hk
      subst hk
      exact List.mem_cons_self
    · exact List.mem_cons_of_mem _ (am_lookup_mem h)
theorem am_mk_ok {co : List (Nat × Instr)} {fl : List (Nat × Nat × Nat × Nat)} {ca : List (Nat × Nat × Option Nat × am_F)} {ne : List (Nat × Nat × List (Option (Option Nat)))} {ar : List (Nat × Nat)} {sc : Option (Nat × (Nat → Int32))} {re : Nat} (h : ∀ q ∈ ca, am_mono q.2.2.2) : am_ok (am_mk co fl ca ne ar sc re) :=
  fun x q hq => h (x, q) (am_lookup_mem hq)
theorem am_mk_grow {co : List (Nat × Instr)} {fl : List (Nat × Nat × Nat × Nat)} {ca : List (Nat × Nat × Option Nat × am_F)} {ne : List (Nat × Nat × List (Option (Option Nat)))} {ar : List (Nat × Nat)} {sc : Option (Nat × (Nat → Int32))} {re : Nat} (h : ∀ q ∈ ca, am_grow q.2.2.2) : ∀ x q, am_cal (am_mk co fl ca ne ar sc re) x = some q → am_grow q.2.2 :=
  fun x q hq => h (x, q) (am_lookup_mem hq)
def am_in (Ts : List Jvm.Cond) (w : Jvm.Cond) : Bool := decide (w ∈ Ts)
def am_ckL (Ts : List Jvm.Cond) (own host : String) (x : Nat) (C nm d : String) : Bool := am_in Ts (.fieldLink own x C nm d) || am_in Ts (.fieldLinkNest own x C nm d host)
def am_ckW (Ts : List Jvm.Cond) (C : String) (T : u_T) (Nf : Nat) : Bool := (u_ws C T Nf).all (fun w => am_in Ts w)
def am_ckG (cl : List vw_C) (Ts : List Jvm.Cond) (own host : String) (x ci k : Nat) : Bool := match cl[ci]? with
  | some (C, T, Nf) => decide (k < Nf) && (am_ckW Ts C T Nf && (decide ((T k).1 = C) && am_ckL Ts own host x C (T k).2.1 (T k).2.2.1))
  | none => false
def am_pty (T : u_T) (j : Nat) : FieldType := (parseFieldDescriptor (T j).2.2.1).getD .int
def am_ckT (T : u_T) (Nf : Nat) : Bool := (List.range Nf).all (fun j => (parseFieldDescriptor (T j).2.2.1).isSome)
def am_ckP (cl : List vw_C) (Ts : List Jvm.Cond) (own host : String) (ini : Bool) (x ci k kd : Nat) : Bool := match cl[ci]? with
  | some (C, T, Nf) => decide (k < Nf) && (am_ckW Ts C T Nf && (decide ((T k).1 = C) && (am_ckT T Nf && ((List.range Nf).all (fun a => (List.range Nf).all (fun b => decide (a = b) || decide ((T a).2.1 ≠ (T b).2.1))) &&
      ((decide (kd = 0) && decide (am_pty T k = .int) || (decide (kd = 1) && decide (am_pty T k = .boolean) || decide (kd = 2) && (am_pty T k).isReference)) &&
       (decide ((T k).2.2.2 = false) && am_ckL Ts own host x C (T k).2.1 (T k).2.2.1 || decide ((T k).2.2.2 = true) && (ini && (decide (C = own) && am_in Ts (.fieldLink own x C (T k).2.1 (T k).2.2.1)))))))))
  | none => false
def am_ckN (cl : List vw_C) (Ts : List Jvm.Cond) (own : String) (x ci : Nat) (fl : List (Option (Option Nat))) : Bool := match cl[ci]? with
  | some (C, T, Nf) => am_ckW Ts C T Nf && (am_ckT T Nf && (am_in Ts (.classLink own x C) && (am_in Ts (.instantiable C Nf) && (am_in Ts (.initialized C) && (decide (fl.length = Nf) &&
      (List.range Nf).all (fun j => decide (fl[j]? = some none) && decide (defaultValue (am_pty T j) = .int 0) || decide (fl[j]? = some (some none)) && decide (defaultValue (am_pty T j) = .null)))))))
  | none => false
def am_ckA (Ts : List Jvm.Cond) (own : String) (x t : Nat) : Bool := match am_ty t with
  | some (.object C) => am_in Ts (.classLink own x C) && am_in Ts (.arrayOver (.object C))
  | _ => false
def am_ckI (Ts : List Jvm.Cond) (kd : Nat → Option Instr) (pl al : List Nat) (i : Instr) : Bool := match i with
  | .putfield x => pl.contains x
  | .anewarray x => al.contains x
  | .newarray .int => am_in Ts (.arrayClass .int)
  | .newarray .boolean => am_in Ts (.arrayClass .boolean)
  | .newarray _ => true
  | .invokevirtual x => decide (kd x = some (.invokevirtual x))
  | .invokespecial x => decide (kd x = some (.invokespecial x))
  | .invokestatic x => decide (kd x = some (.invokestatic x))
  | _ => true
def am_ckD (cc : ByteArray) (nL : Nat) (q : Nat × Instr) : Bool := (match decode cc q.1 with
  | .ok z => decide (z.1 = q.2) && (decide (am_len z.1 = 0) || decide (am_len z.1 = z.2))
  | .error _ => false) && am_bd nL q.1 q.2
theorem am_ckD_ok {cc : ByteArray} {nL : Nat} {q : Nat × Instr} (h : am_ckD cc nL q = true) : (∃ len, decode cc q.1 = .ok (q.2, len) ∧ (am_len q.2 = 0 ∨ am_len q.2 = len)) ∧ am_bd nL q.1 q.2 = true := by
  unfold am_ckD at h
  rw [Bool.and_eq_true] at h
  refine ⟨?_, h.2⟩
  have h := h.1
  split at h
  · rename_i z hz
    rw [Bool.and_eq_true, Bool.or_eq_true] at h
    obtain ⟨i, len⟩ := z
    have h1 : i = q.2 := of_decide_eq_true h.1
    subst h1
    exact ⟨len, hz, h.2.imp of_decide_eq_true of_decide_eq_true⟩
  · cases h
section AMK
variable {cl : List vw_C} {Ts ws : List Jvm.Cond} {own host : String} {args : Array Value} {s : State} {meth : Method} {x ci k kd : Nat}
theorem am_in_ok {w : Jvm.Cond} (hts : ∀ w ∈ ws, w.before args s = true) (hsub : ∀ w ∈ Ts, w ∈ ws) (h : am_in Ts w = true) : w.before args s = true := hts _ (hsub _ (of_decide_eq_true h))
theorem am_ckL_ok {C nm d : String} (hts : ∀ w ∈ ws, w.before args s = true) (hsub : ∀ w ∈ Ts, w ∈ ws) (h : am_ckL Ts own host x C nm d = true) : am_lk own args s x C nm d := by
  unfold am_ckL at h
  rw [Bool.or_eq_true] at h
  rcases h with h | h
  · exact Or.inl (am_in_ok hts hsub h)
  · exact Or.inr ⟨host, am_in_ok hts hsub h⟩
theorem am_ckW_ok {C : String} {T : u_T} {Nf : Nat} (hsub : ∀ w ∈ Ts, w ∈ ws) (h : am_ckW Ts C T Nf = true) : ∀ w ∈ u_ws C T Nf, w ∈ ws := fun w hw => hsub _ (of_decide_eq_true (List.all_eq_true.mp h w hw))
theorem am_ckT_ok {T : u_T} {Nf : Nat} (h : am_ckT T Nf = true) : ∀ k, k < Nf → parseFieldDescriptor (T k).2.2.1 = some (am_pty T k) := fun k hk => by
  have := List.all_eq_true.mp h k (List.mem_range.mpr hk)
  unfold am_pty
  cases hp : parseFieldDescriptor (T k).2.2.1 with
  | none => rw [hp] at this; cases this
  | some t => rfl
theorem am_ckG_ok (hts : ∀ w ∈ ws, w.before args s = true) (hsub : ∀ w ∈ Ts, w ∈ ws) (h : am_ckG cl Ts own host x ci k = true) : am_gOK cl ws own args s x ci k := by
  unfold am_ckG at h
  split at h
  · rename_i C T Nf hc
    simp only [Bool.and_eq_true] at h
    obtain ⟨h1, h2, h3, h4⟩ := h
    exact ⟨C, T, Nf, hc, of_decide_eq_true h1, am_ckW_ok hsub h2, of_decide_eq_true h3, am_ckL_ok hts hsub h4⟩
  · cases h
theorem am_ckP_ok {ini : Bool} (hts : ∀ w ∈ ws, w.before args s = true) (hsub : ∀ w ∈ Ts, w ∈ ws) (hi : ini = true → meth.name = "<init>") (h : am_ckP cl Ts own host ini x ci k kd = true) : am_pOK cl ws own args s meth x ci k kd := by
  unfold am_ckP at h
  split at h
  · rename_i C T Nf hc
    simp only [Bool.and_eq_true, Bool.or_eq_true] at h
    obtain ⟨h1, h2, h3, h4, h5, h6, h7⟩ := h
    refine ⟨C, T, Nf, am_pty T, hc, of_decide_eq_true h1, am_ckW_ok hsub h2, of_decide_eq_true h3, am_ckT_ok h4, fun a ha b hb hab => ?_, ?_, ?_⟩
    · have := List.all_eq_true.mp (List.all_eq_true.mp h5 a (List.mem_range.mpr ha)) b (List.mem_range.mpr hb)
      rw [Bool.or_eq_true] at this
      rcases this with h | h
      · exact absurd (of_decide_eq_true h) hab
      · exact of_decide_eq_true h
    · rcases h6 with h | h | h
      · exact Or.inl ⟨of_decide_eq_true h.1, of_decide_eq_true h.2⟩
      · exact Or.inr (Or.inl ⟨of_decide_eq_true h.1, of_decide_eq_true h.2⟩)
      · exact Or.inr (Or.inr ⟨of_decide_eq_true h.1, h.2⟩)
    · rcases h7 with h | h
      · exact Or.inl ⟨of_decide_eq_true h.1, am_ckL_ok hts hsub h.2⟩
      · exact Or.inr ⟨of_decide_eq_true h.1, hi h.2.1, of_decide_eq_true h.2.2.1, am_in_ok hts hsub h.2.2.2⟩
  · cases h
theorem am_ckN_ok {fl : List (Option (Option Nat))} (hts : ∀ w ∈ ws, w.before args s = true) (hsub : ∀ w ∈ Ts, w ∈ ws) (h : am_ckN cl Ts own x ci fl = true) : am_nOK cl ws own args s x ci fl := by
  unfold am_ckN at h
  split at h
  · rename_i C T Nf hc
    simp only [Bool.and_eq_true] at h
    obtain ⟨h1, h2, h3, h4, h5, h6, h7⟩ := h
    refine ⟨C, T, Nf, am_pty T, hc, am_ckW_ok hsub h1, am_ckT_ok h2, am_in_ok hts hsub h3, am_in_ok hts hsub h4, am_in_ok hts hsub h5, of_decide_eq_true h6, fun j hj => ?_⟩
    have := List.all_eq_true.mp h7 j (List.mem_range.mpr hj)
    simp only [Bool.and_eq_true, Bool.or_eq_true] at this
    rcases this with h | h
    · exact Or.inl ⟨of_decide_eq_true h.1, of_decide_eq_true h.2⟩
    · exact Or.inr ⟨of_decide_eq_true h.1, of_decide_eq_true h.2⟩
  · cases h
end AMK
/-- a call's entry, good at each of its places -/
def am_K (l : Launch) (y : MethodName) (cl : List vw_C) (cc : ByteArray) (nL fr lo : Nat) (z : Instr × Nat × Nat × Option Nat × am_F) : Prop :=
  ∀ (p : Program) (e : Env) (R : Room) (s : State) (m : MethodId) (args : Array Value) (below : List Frame) (meth : Method) (c : Code) (A : Nat → Prop) (D : va_G) (cy : Nat → ClassId) (tys : List (ClassId × FieldType)) (sb n0 s0 pc : Nat),
    CallFix p m c cc nL s args am_tb y.cls → am_NW s → va_K D cl tys s → (∀ t ty, am_ty t = some ty → tys[t]? = some (cy t, ty)) → (∀ q, s.heap.size ≤ q → A q) → R.frames = fr → R.locals = lo → decode cc pc = .ok (z.1, 3) →
    am_cOK p l e R s m args below meth c A D cl cy sb nL n0 s0 pc z.2.2.1 z.2.2.2.1 z.2.2.2.2
def am_Kg (l : Launch) (y : MethodName) (cl : List vw_C) (cc : ByteArray) (nL : Nat) (x t : Nat) : Prop :=
  ∀ (p : Program) (e : Env) (R : Room) (s : State) (m : MethodId) (args : Array Value) (below : List Frame) (meth : Method) (c : Code) (A : Nat → Prop) (D : va_G) (cy : Nat → ClassId) (tys : List (ClassId × FieldType)) (n0 s0 pc : Nat),
    CallFix p m c cc nL s args am_tb y.cls → am_NW s → va_K D cl tys s → (∀ t ty, am_ty t = some ty → tys[t]? = some (cy t, ty)) → (∀ q, s.heap.size ≤ q → A q) → decode cc pc = .ok (.multianewarray x 2, 4) →
    am_GOK p l e R s m args below meth c A D cl cy nL n0 s0 pc t
theorem am_cb_lookup {x : Nat} {i : Instr} {q : Nat × Option Nat × am_F} : ∀ {cb : List (Instr × Nat × Nat × Option Nat × am_F)}, (cb.map (fun z => (z.2.1, z.1))).lookup x = some i → (cb.map (fun z => z.2)).lookup x = some q → ∃ z ∈ cb, z.1 = i ∧ z.2.2 = q
  | [], h, _ => by cases h
  | z :: cb, h, h2 => by
    rw [List.map_cons, List.lookup] at h h2
    cases hk : x == z.2.1 with
    | true =>
      rw [hk] at h h2
      cases h
      cases h2
      exact ⟨z, List.mem_cons_self, rfl, rfl⟩
    | false =>
      rw [hk] at h h2
      obtain ⟨w, hw, e1, e2⟩ := am_cb_lookup h h2
      exact ⟨w, List.mem_cons_of_mem _ hw, e1, e2⟩
def am_ck (cl : List vw_C) (Ts : List Jvm.Cond) (own host : String) (ini : Bool) (cc : ByteArray) (nL : Nat) (co : List (Nat × Instr)) (fl : List (Nat × Nat × Nat × Nat)) (kl : List (Nat × Instr)) (ne : List (Nat × Nat × List (Option (Option Nat)))) (ar : List (Nat × Nat)) (pl al : List Nat) : Bool :=
  co.all (fun q => am_ckD cc nL q && am_ckI Ts (fun x => kl.lookup x) pl al q.2) && (fl.all (fun q => am_ckG cl Ts own host q.1 q.2.1 q.2.2.1) && (pl.all (fun x => match fl.lookup x with
    | some q => am_ckP cl Ts own host ini x q.1 q.2.1 q.2.2
    | none => true) && (ne.all (fun q => am_ckN cl Ts own q.1 q.2.1 q.2.2) && al.all (fun x => match ar.lookup x with
    | some t => am_ckA Ts own x t
    | none => true))))
theorem am_ctx {l : Launch} {y : MethodName} {cl : List vw_C} {cc : ByteArray} {nL fr lo : Nat} {co : List (Nat × Instr)} {fl : List (Nat × Nat × Nat × Nat)} {cb : List (Instr × Nat × Nat × Option Nat × am_F)} {ne : List (Nat × Nat × List (Option (Option Nat)))} {ar : List (Nat × Nat)} {sc : Option (Nat × (Nat → Int32))} {re : Nat} (Ts : List Jvm.Cond) (kl : List (Nat × Instr)) (host : String) (ini : Bool) (pl al : List Nat) (hsub : ∀ w ∈ Ts, w ∈ am_tb)
    (hk : kl = cb.map (fun z => (z.2.1, z.1))) (hck : am_ck cl Ts y.cls host ini cc nL co fl kl ne ar pl al = true) (hini : ini = true → y.name = "<init>") (hcal : ∀ z ∈ cb, am_K l y cl cc nL fr lo z) (hgr : ∀ x t, ar.lookup x = some t → x ∉ al → am_Kg l y cl cc nL x t) (hdm : co.all (fun q => match q.2 with
      | .multianewarray x k => decide (k = 2) && !al.contains x
      | _ => true) = true) : am_Ctx l y cl cc nL fr lo (am_mk co fl (cb.map (fun z => z.2)) ne ar sc re) := by
  subst hk
  intro p e R s m args below meth c A D cy tys sb n0 s0 S hN hnm hK hty hA hR1 hR2 pc i hi
  unfold am_ck at hck
  simp only [Bool.and_eq_true] at hck
  obtain ⟨c1, c2, c3, c4, c5⟩ := hck
  have hmem : (pc, i) ∈ co := am_lookup_mem hi
  have d1 := List.all_eq_true.mp c1 _ hmem
  rw [Bool.and_eq_true] at d1
  obtain ⟨e1, e2⟩ := am_ckD_ok d1.1
  have d2 := d1.2
  have hts := S.2.2.2.2
  have call : ∀ x (q : Nat × Option Nat × am_F), (cb.map (fun z => (z.2.1, z.1))).lookup x = some i → am_len i = 3 → (cb.map (fun z => z.2)).lookup x = some q → am_cOK p l e R s m args below meth c A D cl cy sb nL n0 s0 pc q.1 q.2.1 q.2.2 := by
    intro x q h1 h3 h2
    obtain ⟨z, hz, g1, g2⟩ := am_cb_lookup h1 h2
    subst g1
    subst g2
    obtain ⟨len, g3, g4⟩ := e1
    have g5 : len = 3 := by
      dsimp only at g4
      rcases g4 with g4 | g4 <;> omega
    subst g5
    exact hcal z hz p e R s m args below meth c A D cy tys sb n0 s0 pc S hN hK hty hA hR1 hR2 g3
  refine ⟨e1, e2, ?_⟩
  cases i with
  | getfield x =>
    intro q hq
    exact am_ckG_ok hts hsub (List.all_eq_true.mp c2 _ (am_lookup_mem hq))
  | putfield x =>
    intro q hq
    have hq : fl.lookup x = some q := hq
    have hx : x ∈ pl := by simpa [am_ckI] using d2
    have := List.all_eq_true.mp c3 x hx
    rw [hq] at this
    exact am_ckP_ok hts hsub (fun h => hnm.trans (hini h)) this
  | new x =>
    intro q hq
    exact am_ckN_ok hts hsub (List.all_eq_true.mp c4 _ (am_lookup_mem hq))
  | newarray t =>
    refine ⟨fun h => ?_, fun h => ?_⟩
    · subst h; exact am_in_ok hts hsub d2
    · subst h; exact am_in_ok hts hsub d2
  | anewarray x =>
    intro t ht
    have ht : ar.lookup x = some t := ht
    have hx : x ∈ al := by simpa [am_ckI] using d2
    have := List.all_eq_true.mp c5 x hx
    rw [ht] at this
    have this : am_ckA Ts y.cls x t = true := this
    unfold am_ckA at this
    split at this
    · rename_i C hC
      rw [Bool.and_eq_true] at this
      exact ⟨C, hC, am_in_ok hts hsub this.1, am_in_ok hts hsub this.2⟩
    · cases this
  | multianewarray x k =>
    intro t ht
    have := List.all_eq_true.mp hdm _ hmem
    simp only [Bool.and_eq_true] at this
    have hk2 : k = 2 := of_decide_eq_true this.1
    subst hk2
    obtain ⟨len, g3, g4⟩ := e1
    have g5 : len = 4 := by rcases g4 with g4 | g4; cases g4; exact g4.symm
    subst g5
    exact hgr x t ht (by simpa using this.2) p e R s m args below meth c A D cy tys n0 s0 pc S hN hK hty hA g3
  | invokevirtual x => intro q hq; exact call x q (of_decide_eq_true d2) rfl hq
  | invokespecial x => intro q hq; exact call x q (of_decide_eq_true d2) rfl hq
  | invokestatic x => intro q hq; exact call x q (of_decide_eq_true d2) rfl hq
  | _ => trivial
end
section
/-! Calls of our own methods: every contract has the whole table's words. -/
theorem am_goodIn {y : MethodName} {cc : ByteArray} {nL : Nat} {ret : Option FieldType} (h : Cond.code y cc nL ret ∈ am_tb) : GoodIn am_tb (am_ws y cc nL ret) := by
  intro w hwi
  rcases List.mem_cons.mp hwi with rfl | h2
  · exact ⟨h, good_of_word rfl⟩
  · have h3 := List.mem_filter.mp h2
    exact ⟨List.mem_filter.mpr ⟨h3.1, by rw [h3.2]; rfl⟩, good_of_word h3.2⟩
/-- numbers of a call -/
def am_ckC (y : MethodName) (nL fr lo nL2 fr2 lo2 na : Nat) (y2 : MethodName) : Bool :=
  decide (y2.cls ≠ "java/lang/invoke/MethodHandle") && (decide (y2.cls ≠ "java/lang/invoke/VarHandle") && (decide ((parseMethodDescriptor y2.desc).map (fun d => d.parameters.length) = some na) && (decide (fr2 + 1 ≤ fr) && decide (8 + (nL2 + 11) + lo2 ≤ lo))))
section AMCC
variable {l : Launch} {y y2 : MethodName} {cl : List vw_C} {cc cc2 : ByteArray} {nL fr lo nL2 fr2 lo2 na x ci : Nat} {ret2 : Option FieldType} {Ts : List Jvm.Cond} {f : am_F} {host : String} {T : u_T} {Nf : Nat}
theorem am_KV (hsub : ∀ w ∈ Ts, w ∈ am_tb) (hSd : am_Sd l cl y2 (am_ws y2 cc2 nL2 ret2) fr2 lo2 f) (hci : cl[ci]? = some (y2.cls, T, Nf)) (hn : am_ckC y nL fr lo nL2 fr2 lo2 na y2 = true)
    (hw : (am_in Ts (.code y2 cc2 nL2 ret2) && (am_in Ts (.methodLink y.cls x y2) && (am_in Ts (.instanceMethod y2) && (am_in Ts (.selects y2.cls y2 y2) && am_in Ts (.initialized y2.cls))))) = true) :
    am_K l y cl cc nL fr lo (.invokevirtual x, x, na + 1, some ci, f) := by
  intro p e R s m args below meth c A D cy tys sb n0 s0 pc S hN hK hty hA hR1 hR2 hd
  simp only [Bool.and_eq_true] at hw
  obtain ⟨w1, w2, w3, w4, w5⟩ := hw
  unfold am_ckC at hn
  simp only [Bool.and_eq_true] at hn
  obtain ⟨n1, n2, n3, n4, n5⟩ := hn
  have hts := S.2.2.2.2
  have hG := am_goodIn (hsub _ (of_decide_eq_true w1))
  refine am_cV (bytes := cc2) (maxL := nL2) (ret := ret2) S hK hN hty hA hSd hci (fun mc ms => ⟨callB_of na hts hG rfl rfl rfl (am_in_ok hts hsub w5) (am_in_ok hts hsub w2) ⟨of_decide_eq_true n1, of_decide_eq_true n2, of_decide_eq_true n3⟩ ⟨?_, ?_⟩, am_in_ok hts hsub w3, am_in_ok hts hsub w4⟩) hd
  · rw [hR1]; exact of_decide_eq_true n4
  · rw [hR2]; exact of_decide_eq_true n5
theorem am_KVN (hsub : ∀ w ∈ Ts, w ∈ am_tb) (hSd : am_Sd l cl y2 (am_ws y2 cc2 nL2 ret2) fr2 lo2 f) (hci : cl[ci]? = some (y2.cls, T, Nf)) (hn : am_ckC y nL fr lo nL2 fr2 lo2 na y2 = true)
    (hw : (am_in Ts (.code y2 cc2 nL2 ret2) && (am_in Ts (.methodLinkNest y.cls x y2 host) && (am_in Ts (.instanceMethod y2) && (am_in Ts (.selects y2.cls y2 y2) && am_in Ts (.initialized y2.cls))))) = true) :
    am_K l y cl cc nL fr lo (.invokevirtual x, x, na + 1, some ci, f) := by
  intro p e R s m args below meth c A D cy tys sb n0 s0 pc S hN hK hty hA hR1 hR2 hd
  simp only [Bool.and_eq_true] at hw
  obtain ⟨w1, w2, w3, w4, w5⟩ := hw
  unfold am_ckC at hn
  simp only [Bool.and_eq_true] at hn
  obtain ⟨n1, n2, n3, n4, n5⟩ := hn
  have hts := S.2.2.2.2
  have hG := am_goodIn (hsub _ (of_decide_eq_true w1))
  refine am_cVN (host := host) (bytes := cc2) (maxL := nL2) (ret := ret2) S hK hN hty hA hSd hci (fun mc ms => ⟨va_cnB na hts hG rfl rfl rfl (va_any rfl (am_in_ok hts hsub w2)) (am_in_ok hts hsub w5) ⟨of_decide_eq_true n1, of_decide_eq_true n2, of_decide_eq_true n3⟩ ⟨?_, ?_⟩, am_in_ok hts hsub w3, am_in_ok hts hsub w4⟩) hd
  · rw [hR1]; exact of_decide_eq_true n4
  · rw [hR2]; exact of_decide_eq_true n5
theorem am_KS (hsub : ∀ w ∈ Ts, w ∈ am_tb) (hSd : am_Sd l cl y2 (am_ws y2 cc2 nL2 ret2) fr2 lo2 f) (hn : am_ckC y nL fr lo nL2 fr2 lo2 na y2 = true)
    (hw : (am_in Ts (.code y2 cc2 nL2 ret2) && (am_in Ts (.methodLink y.cls x y2) && (am_in Ts (.static y2) && am_in Ts (.initialized y2.cls)))) = true) :
    am_K l y cl cc nL fr lo (.invokestatic x, x, na, none, f) := by
  intro p e R s m args below meth c A D cy tys sb n0 s0 pc S hN hK hty hA hR1 hR2 hd
  simp only [Bool.and_eq_true] at hw
  obtain ⟨w1, w2, w3, w5⟩ := hw
  unfold am_ckC at hn
  simp only [Bool.and_eq_true] at hn
  obtain ⟨n1, n2, n3, n4, n5⟩ := hn
  have hts := S.2.2.2.2
  have hG := am_goodIn (hsub _ (of_decide_eq_true w1))
  refine am_cS (bytes := cc2) (maxL := nL2) (ret := ret2) S hK hN hty hA hSd (fun mc ms => ⟨callB_of na hts hG rfl rfl rfl (am_in_ok hts hsub w5) (am_in_ok hts hsub w2) ⟨of_decide_eq_true n1, of_decide_eq_true n2, of_decide_eq_true n3⟩ ⟨?_, ?_⟩, am_in_ok hts hsub w3⟩) hd
  · rw [hR1]; exact of_decide_eq_true n4
  · rw [hR2]; exact of_decide_eq_true n5
theorem am_KSN (hsub : ∀ w ∈ Ts, w ∈ am_tb) (hSd : am_Sd l cl y2 (am_ws y2 cc2 nL2 ret2) fr2 lo2 f) (hn : am_ckC y nL fr lo nL2 fr2 lo2 na y2 = true)
    (hw : (am_in Ts (.code y2 cc2 nL2 ret2) && (am_in Ts (.methodLinkNest y.cls x y2 host) && (am_in Ts (.static y2) && am_in Ts (.initialized y2.cls)))) = true) :
    am_K l y cl cc nL fr lo (.invokestatic x, x, na, none, f) := by
  intro p e R s m args below meth c A D cy tys sb n0 s0 pc S hN hK hty hA hR1 hR2 hd
  simp only [Bool.and_eq_true] at hw
  obtain ⟨w1, w2, w3, w5⟩ := hw
  unfold am_ckC at hn
  simp only [Bool.and_eq_true] at hn
  obtain ⟨n1, n2, n3, n4, n5⟩ := hn
  have hts := S.2.2.2.2
  have hG := am_goodIn (hsub _ (of_decide_eq_true w1))
  refine am_cSN (host := host) (bytes := cc2) (maxL := nL2) (ret := ret2) S hK hN hty hA hSd (fun mc ms => ⟨va_cnB na hts hG rfl rfl rfl (va_any rfl (am_in_ok hts hsub w2)) (am_in_ok hts hsub w5) ⟨of_decide_eq_true n1, of_decide_eq_true n2, of_decide_eq_true n3⟩ ⟨?_, ?_⟩, am_in_ok hts hsub w3, trivial⟩) hd
  · rw [hR1]; exact of_decide_eq_true n4
  · rw [hR2]; exact of_decide_eq_true n5
theorem am_KI (hsub : ∀ w ∈ Ts, w ∈ am_tb) (hSd : am_Sd l cl y2 (am_ws y2 cc2 nL2 none) fr2 lo2 f) (hy : y2.name = "<init>") (hn : am_ckC y nL fr lo nL2 fr2 lo2 na y2 = true)
    (hw : (am_in Ts (.code y2 cc2 nL2 none) && (am_in Ts (.methodLink y.cls x y2) && (am_in Ts (.instanceMethod y2) && am_in Ts (.initialized y2.cls)))) = true) :
    am_K l y cl cc nL fr lo (.invokespecial x, x, na + 1, some ci, f) := by
  intro p e R s m args below meth c A D cy tys sb n0 s0 pc S hN hK hty hA hR1 hR2 hd
  simp only [Bool.and_eq_true] at hw
  obtain ⟨w1, w2, w3, w5⟩ := hw
  unfold am_ckC at hn
  simp only [Bool.and_eq_true] at hn
  obtain ⟨n1, n2, n3, n4, n5⟩ := hn
  have hts := S.2.2.2.2
  have hG := am_goodIn (hsub _ (of_decide_eq_true w1))
  refine am_cI (bytes := cc2) (maxL := nL2) S hK hN hty hA hSd (fun mc ms => ⟨callB_of na hts hG rfl rfl rfl (am_in_ok hts hsub w5) (am_in_ok hts hsub w2) ⟨of_decide_eq_true n1, of_decide_eq_true n2, of_decide_eq_true n3⟩ ⟨?_, ?_⟩, hy, am_in_ok hts hsub w3⟩) hd
  · rw [hR1]; exact of_decide_eq_true n4
  · rw [hR2]; exact of_decide_eq_true n5
theorem am_KIN (hsub : ∀ w ∈ Ts, w ∈ am_tb) (hSd : am_Sd l cl y2 (am_ws y2 cc2 nL2 none) fr2 lo2 f) (hy : y2.name = "<init>") (hn : am_ckC y nL fr lo nL2 fr2 lo2 na y2 = true)
    (hw : (am_in Ts (.code y2 cc2 nL2 none) && (am_in Ts (.methodLinkNest y.cls x y2 host) && (am_in Ts (.instanceMethod y2) && am_in Ts (.initialized y2.cls)))) = true) :
    am_K l y cl cc nL fr lo (.invokespecial x, x, na + 1, some ci, f) := by
  intro p e R s m args below meth c A D cy tys sb n0 s0 pc S hN hK hty hA hR1 hR2 hd
  simp only [Bool.and_eq_true] at hw
  obtain ⟨w1, w2, w3, w5⟩ := hw
  unfold am_ckC at hn
  simp only [Bool.and_eq_true] at hn
  obtain ⟨n1, n2, n3, n4, n5⟩ := hn
  have hts := S.2.2.2.2
  have hG := am_goodIn (hsub _ (of_decide_eq_true w1))
  refine am_cIN (host := host) (bytes := cc2) (maxL := nL2) S hK hN hty hA hSd (fun mc ms => ⟨va_cnB na hts hG rfl rfl rfl (va_any rfl (am_in_ok hts hsub w2)) (am_in_ok hts hsub w5) ⟨of_decide_eq_true n1, of_decide_eq_true n2, of_decide_eq_true n3⟩ ⟨?_, ?_⟩, hy, am_in_ok hts hsub w3⟩) hd
  · rw [hR1]; exact of_decide_eq_true n4
  · rw [hR2]; exact of_decide_eq_true n5
theorem am_KO {rc : Option Nat} (hsub : ∀ w ∈ Ts, w ∈ am_tb) (hn : (decide (1 ≤ fr) && decide (20 ≤ lo)) = true)
    (hw : (am_in Ts (.methodLink y.cls x Lib.objectInit) && (am_in Ts (.instanceMethod Lib.objectInit) && am_in Ts (.code Lib.objectInit ⟨#[0xb1]⟩ 1 none))) = true) :
    am_K l y cl cc nL fr lo (.invokespecial x, x, 1, rc, am_obj) := by
  intro p e R s m args below meth c A D cy tys sb n0 s0 pc S hN hK hty hA hR1 hR2 hd
  simp only [Bool.and_eq_true] at hw hn
  obtain ⟨w1, w2, w3⟩ := hw
  have hts := S.2.2.2.2
  exact am_cObj S (am_in_ok hts hsub w1) (am_in_ok hts hsub w2) (am_in_ok hts hsub w3) ⟨by rw [hR1]; exact of_decide_eq_true hn.1, by rw [hR2]; exact of_decide_eq_true hn.2⟩ hd
theorem am_KC {rc : Option Nat} (hsub : ∀ w ∈ Ts, w ∈ am_tb) (hn : (decide (1 ≤ fr) && decide (26 ≤ lo)) = true)
    (hw : (am_in Ts (.methodLink y.cls x arraycopyName) && (am_in Ts (.native arraycopyName) && (am_in Ts (.static arraycopyName) && am_in Ts (.initialized "java/lang/System")))) = true) :
    am_K l y cl cc nL fr lo (.invokestatic x, x, 5, rc, am_cpy) := by
  intro p e R s m args below meth c A D cy tys sb n0 s0 pc S hN hK hty hA hR1 hR2 hd
  simp only [Bool.and_eq_true] at hw hn
  obtain ⟨w1, w2, w3, w4⟩ := hw
  have hts := S.2.2.2.2
  exact am_cCp S hK hty rfl (am_in_ok hts hsub w1) (am_in_ok hts hsub w2) (am_in_ok hts hsub w3) (am_in_ok hts hsub w4) ⟨by rw [hR1]; exact of_decide_eq_true hn.1, by rw [hR2]; exact of_decide_eq_true hn.2⟩ hd
end AMCC
end
section
def va_AOA (t : FieldType) (U : State) : Prop := (Cond.arrayOver (.array t)).before #[] U = true
theorem va_AOA.use {t : FieldType} {A : Array Value} {U : State} (h : va_AOA t U) : (Cond.arrayOver (.array t)).before A U = true := h
/-! ===== BEGIN new T[n][m]: the outer array a place, the inner ones among the pooled ===== -/
/-- f, but v at every address of l -/
def vr_up {α : Type} (f : Nat → α) (l : List Nat) (v : α) : Nat → α := fun a => if a ∈ l then v else f a
theorem vr_up_in {α : Type} {f : Nat → α} {l : List Nat} {v : α} {a : Nat} (h : a ∈ l) : vr_up f l v a = v := if_pos h
theorem vr_up_ne {α : Type} {f : Nat → α} {l : List Nat} {v : α} {a : Nat} (h : a ∉ l) : vr_up f l v a = f a := if_neg h
theorem vr_rows {L l : List Nat} {f : Nat → va_E} {e : va_E} (h : ∀ a, a ∈ l → a ∉ L) : va_pl L f ++ l.map (fun a => (a, e)) = va_pl (L ++ l) (vr_up f l e) := by
  unfold va_pl
  rw [List.map_append]
  congr 1
  · apply List.map_congr_left
    intro a ha
    rw [vr_up_ne (fun q => h a q ha)]
  · apply List.map_congr_left
    intro a ha
    rw [vr_up_in ha]
theorem vr_lay {X rows : va_W} {x : Nat × va_E} {pl : va_W} {D : va_G} {cl : List vw_C} {H : Heap} (hP : va_P D cl (((X ++ pl) ++ [x]) ++ rows) H) : va_P D cl ((X ++ [x]) ++ (pl ++ rows)) H := by
  rw [List.append_assoc (X ++ pl)] at hP
  have h := va_P.swap hP
  rw [← List.append_assoc X] at h
  have h2 := va_P.swap h
  rw [List.append_assoc (X ++ [x])] at h2
  exact h2
theorem vr_layD {X rows : va_W} {x : Nat × va_E} {pl : va_W} {A : Nat → Prop} (hD : va_D A (((X ++ pl) ++ [x]) ++ rows)) : va_D A ((X ++ [x]) ++ (pl ++ rows)) := by
  rw [List.append_assoc (X ++ pl)] at hD
  have h := va_D.swap hD
  rw [← List.append_assoc X] at h
  have h2 := va_D.swap h
  rw [List.append_assoc (X ++ [x])] at h2
  exact h2
theorem vr_outer (c : ClassId) (N h0 : Nat) : ∀ i : Nat, Jvm.Free.Multi.outerC c N h0 i = arrV c N (fun j => va_rf (if j < i then some (h0 + 1 + j) else none))
  | 0 => by
    show ({ cls := c, slots := Array.replicate N .null, vm := .none } : Cell) = _
    rw [arrV_new]
    refine congrArg (arrV c N) (funext fun j => ?_)
    simp [va_rf]
  | i + 1 => by
    show (Jvm.Free.Multi.outerC c N h0 i).setSlot i (.ref (h0 + 1 + i)) = _
    rw [vr_outer c N h0 i, arrV_store]
    refine congrArg (arrV c N) (funext fun j => ?_)
    by_cases e : j = i
    · subst e
      simp [updV, va_rf]
    · by_cases h : j < i
      · simp [updV, e, h, Nat.lt_succ_of_lt h]
      · simp [updV, e, h, show ¬ j < i + 1 by omega]
section VGM
variable {p : Program} {l : Launch} {e : Env} {R : Room} {s : State} {m : MethodId} {args : Array Value} {below : List Frame} {meth : Method} {c : Code} {H : Heap} {locs : List Loc} {cells slots : Nat} {Q : State → Prop}
variable {cc : ByteArray} {pc : Nat} {ls : Array Slot} {rest : List Value} {D : va_G} {cl : List vw_C} {A : Nat → Prop} {a : Nat} {tys : List (ClassId × FieldType)} {ws : va_W} {H0 : Heap}
theorem va_mna {X : va_W} {L : List Nat} {f : Nat → va_E} {cc : ByteArray} (hexec : p.tables.exec = Jvm.exec) (hb : c.code = cc) {own : String} {index : Nat} {ty : FieldType} {cy : ClassId} (hown : s.vm.findClass own = some m.cls) (hclink : (Cond.classLink own index ("[" ++ (FieldType.array ty).toString)).before args s = true) (hover : va_AOA ty s) (harr : (Cond.arrayClass ty).before args s = true) (hcy : s.vm.findClass (FieldType.array ty).toString = some cy)
    (hK : va_K D cl tys s) (hP : va_P D cl (X ++ va_pl L f) H) (hD : va_D A (X ++ va_pl L f)) (hS : va_S A H0 H locs) (hA : ∀ q, H0.size ≤ q → A q) {n k : Int32} {N' K' : Nat} {z : vp_A} (hn : ¬ n < 0) (hk : ¬ k < 0) (hN : n.toNatClampNeg = N') (hM : k.toNatClampNeg = K')
    (hb1 : N' * 4 ≤ 536870912) (hb2 : K' * componentBytes ty ≤ 536870912) (hb3 : K' ≤ 536870912) (hdf : fits ty (defaultValue ty) = true) (hdd : (defaultValue ty).isDefault = true) (hcells : cells + (1 + N') ≤ R.cells) (hslots : slots + (N' + N' * K') ≤ R.slots) (hz : ∀ c : ClassId, Jvm.Free.Multi.innerC c K' (defaultValue ty) = vp_cell c z) (hdg : decode cc pc = .ok (.multianewarray index 2, 4))
    (kk : ∀ (q : Nat) (r : Nat → Nat) (cA : ClassId) (H1 : Heap), (∀ i j : Nat, i < N' → j < N' → r i = r j → i = j) → (∀ i : Nat, i < N' → r i ∉ L) → va_K D cl (tys ++ [(cA, .array ty)]) s →
      va_P D cl ((X ++ [(q, .inl (cA, N', .inr (.inr (.inr (.inr (fun i => if i < N' then some (r i) else none))))))]) ++ va_pl (L ++ (List.range N').map r) (vr_up f ((List.range N').map r) (.inl (cy, z)))) H1 → va_D A ((X ++ [(q, .inl (cA, N', .inr (.inr (.inr (.inr (fun i => if i < N' then some (r i) else none))))))]) ++ va_pl (L ++ (List.range N').map r) (vr_up f ((List.range N').map r) (.inl (cy, z)))) → va_S A H0 H1 locs →
      W p l e R s m args below meth c H1 locs (cells + 1 + N') (slots + N' + N' * K') Q (F0 m (pc + 4) ls (.ref q :: rest))) : W p l e R s m args below meth c H locs cells slots Q (F0 m pc ls (.int k :: .int n :: rest)) := by
  subst hN
  subst hM
  intro T hT Xs
  obtain ⟨vm₁, cA, comp, -, fA, fC, hO, -, X', step⟩ := Xs.multianewarray2F hexec hown hclink (va_AOA.use hover) harr (g := F0 m pc ls (.int k :: .int n :: rest)) rfl (by rw [hb]; exact hdg) rfl hn hk hb1 hb2 hb3 hdf hdd hcells hslots
  have ec : some cy = some comp := hcy.symm.trans fC
  cases ec
  generalize hF : Jvm.Free.Multi.fill (T.setVm vm₁) cA cy n.toNatClampNeg k.toNatClampNeg (defaultValue ty) n.toNatClampNeg = F at X' step
  have hTh : (T.setVm vm₁).heap = H := hT
  obtain ⟨f1, f2, -, -⟩ := Jvm.Free.Multi.fill_facts (T.setVm vm₁) cA cy n.toNatClampNeg k.toNatClampNeg (defaultValue ty) n.toNatClampNeg
  rw [hF, hTh] at f1 f2
  have hold : ∀ x : Nat, x < H.size → F.heap[x]? = H[x]? := fun x hx => by
    have := Jvm.Free.Multi.fill_old (T.setVm vm₁) cA cy n.toNatClampNeg k.toNatClampNeg (defaultValue ty) (a := x) (by rw [hTh]; exact hx) n.toNatClampNeg
    rw [hF, hTh] at this
    exact this
  have hrow : ∀ j : Nat, j < n.toNatClampNeg → F.heap[H.size + 1 + j]? = some (vp_cell cy z) := fun j hj => by
    have := Jvm.Free.Multi.fill_inner (T.setVm vm₁) cA cy n.toNatClampNeg k.toNatClampNeg (defaultValue ty) n.toNatClampNeg j hj
    rw [hF, hTh, hz] at this
    exact this
  have hout : Jvm.Free.Multi.outerC cA n.toNatClampNeg H.size n.toNatClampNeg = vp_cell cA (n.toNatClampNeg, .inr (.inr (.inr (.inr (fun i => if i < n.toNatClampNeg then some (H.size + 1 + i) else none))))) := by
    rw [vp_cell_q]
    exact vr_outer cA n.toNatClampNeg H.size n.toNatClampNeg
  rw [hout] at f2
  have hlt : ∀ a, a ∈ L → a < H.size := fun a ha => by
    obtain ⟨k9, hk9⟩ := va_pl_get (X := X) (f := f) ha
    exact (hP k9 _ hk9).lt
  have hnl : ∀ i : Nat, i < n.toNatClampNeg → H.size + 1 + i ∉ L := fun i _ h => by
    have := hlt _ h
    omega
  have hnm : ∀ a, a ∈ (List.range n.toNatClampNeg).map (fun i => H.size + 1 + i) → a ∉ L := fun a ha h => by
    obtain ⟨i, -, rfl⟩ := List.mem_map.mp ha
    have := hlt _ h
    omega
  have hP0 : va_P D cl (X ++ va_pl L f) F.heap := hP.kept (fun k9 x hx => hold x.1 ((hP k9 x hx).lt))
  have hP1 : va_P D cl ((X ++ va_pl L f) ++ [(H.size, .inl (cA, n.toNatClampNeg, .inr (.inr (.inr (.inr (fun i => if i < n.toNatClampNeg then some (H.size + 1 + i) else none))))))]) F.heap := hP0.app (fun k9 x hx => by
    have h0 : k9 < 1 := (List.getElem?_eq_some_iff.mp hx).1
    rw [show k9 = 0 by omega] at hx
    cases hx
    exact f2)
  have hP2 : va_P D cl (((X ++ va_pl L f) ++ [(H.size, .inl (cA, n.toNatClampNeg, .inr (.inr (.inr (.inr (fun i => if i < n.toNatClampNeg then some (H.size + 1 + i) else none))))))]) ++ ((List.range n.toNatClampNeg).map (fun i => H.size + 1 + i)).map (fun a => (a, .inl (cy, z)))) F.heap := hP1.app (fun k9 x hx => by
    obtain ⟨a, ha, rfl⟩ := List.mem_map.mp (List.mem_of_getElem? hx)
    obtain ⟨i, hi, rfl⟩ := List.mem_map.mp ha
    exact hrow i (List.mem_range.mp hi))
  have hD2 : va_D A (((X ++ va_pl L f) ++ [(H.size, .inl (cA, n.toNatClampNeg, .inr (.inr (.inr (.inr (fun i => if i < n.toNatClampNeg then some (H.size + 1 + i) else none))))))]) ++ ((List.range n.toNatClampNeg).map (fun i => H.size + 1 + i)).map (fun a => (a, .inl (cy, z)))) := by
    have hD1 := hD.push (e := .inl (cA, n.toNatClampNeg, .inr (.inr (.inr (.inr (fun i => if i < n.toNatClampNeg then some (H.size + 1 + i) else none)))))) hP rfl (hA _ hS.1)
    generalize hW1 : (X ++ va_pl L f) ++ [(H.size, .inl (cA, n.toNatClampNeg, .inr (.inr (.inr (.inr (fun i => if i < n.toNatClampNeg then some (H.size + 1 + i) else none))))))] = W1 at hD1 hP1 ⊢
    have hle : ∀ (k9 : Nat) (x : Nat × va_E), W1[k9]? = some x → x.1 ≤ H.size := fun k9 x hx => by
      rw [← hW1] at hx
      by_cases hl : k9 < (X ++ va_pl L f).length
      · rw [List.getElem?_append_left hl] at hx
        exact Nat.le_of_lt ((hP k9 x hx).lt)
      · rw [List.getElem?_append_right (by omega)] at hx
        have h0 : k9 - (X ++ va_pl L f).length < 1 := (List.getElem?_eq_some_iff.mp hx).1
        rw [show k9 - (X ++ va_pl L f).length = 0 by omega] at hx
        cases hx
        exact Nat.le_refl _
    have hr : ∀ (k9 : Nat) (x : Nat × va_E), (((List.range n.toNatClampNeg).map (fun i => H.size + 1 + i)).map (fun a => ((a, .inl (cy, z)) : Nat × va_E)))[k9]? = some x → x.1 = H.size + 1 + k9 := fun k9 x hx => by
      rw [List.getElem?_map, List.getElem?_map] at hx
      by_cases h9 : k9 < n.toNatClampNeg
      · rw [List.getElem?_range h9] at hx
        cases hx
        rfl
      · have hn0 : (List.range n.toNatClampNeg)[k9]? = none := List.getElem?_eq_none (by rw [List.length_range]; omega)
        rw [hn0] at hx
        cases hx
    refine ⟨fun i j x y hi hj hxy => ?_, fun k9 x hx => ?_⟩
    · by_cases h1 : i < W1.length <;> by_cases h2 : j < W1.length
      · rw [List.getElem?_append_left h1] at hi
        rw [List.getElem?_append_left h2] at hj
        exact hD1.1 i j x y hi hj hxy
      · rw [List.getElem?_append_left h1] at hi
        rw [List.getElem?_append_right (by omega)] at hj
        have := hle _ _ hi
        have := hr _ _ hj
        omega
      · rw [List.getElem?_append_right (by omega)] at hi
        rw [List.getElem?_append_left h2] at hj
        have := hle _ _ hj
        have := hr _ _ hi
        omega
      · rw [List.getElem?_append_right (by omega)] at hi hj
        have := hr _ _ hi
        have := hr _ _ hj
        omega
    · by_cases h1 : k9 < W1.length
      · rw [List.getElem?_append_left h1] at hx
        exact hD1.2 k9 x hx
      · rw [List.getElem?_append_right (by omega)] at hx
        have := hr _ _ hx
        exact hA _ (by have := hS.1; omega)
  have hAr : ArrOfT s cA (.array ty) := fun N9 z9 => by
    obtain ⟨-, k9, hk9, cm9, hkk9⟩ := (hO 0 0 0).1
    exact ⟨(fun q hq => by cases hq), k9, hk9, cm9, hkk9⟩
  have hK2 : va_K D cl (tys ++ [(cA, .array ty)]) s := ⟨hK.1, fun k9 x hx => by
    by_cases hl : k9 < tys.length
    · rw [List.getElem?_append_left hl] at hx
      exact hK.2 k9 x hx
    · rw [List.getElem?_append_right (by omega)] at hx
      have h0 : k9 - tys.length < 1 := (List.getElem?_eq_some_iff.mp hx).1
      rw [show k9 - tys.length = 0 by omega] at hx
      cases hx
      exact ⟨hAr, fA⟩⟩
  obtain ⟨t, a1, b1⟩ := kk H.size (fun i => H.size + 1 + i) cA F.heap (fun i j _ _ h => by have h9 : H.size + 1 + i = H.size + 1 + j := h; omega) hnl hK2 (by rw [← vr_rows hnm]; exact vr_lay hP2) (by rw [← vr_rows hnm]; exact vr_layD hD2) ⟨by rw [f1]; have := hS.1; omega, fun x h1 h2 => (hold x (Nat.lt_of_lt_of_le h1 hS.1)).trans (hS.2.1 x h1 h2), hS.2.2⟩ F rfl X'
  refine ⟨t, step t ?_, b1⟩
  have e : T.heap.size = H.size := by rw [hT]
  rw [e]
  exact a1
end VGM
/-! ===== END ===== -/
end
section
/-! A grid of ints is made. -/
section AMG
variable {p : Program} {l : Launch} {e : Env} {R : Room} {s : State} {m : MethodId} {args : Array Value} {below : List Frame} {meth : Method} {c : Code}
variable {cc : ByteArray} {pc nL n0 s0 x : Nat} {A : Nat → Prop} {D : va_G} {cl : List vw_C} {cy : Nat → ClassId} {tys : List (ClassId × FieldType)} {own : String}
theorem am_gok (hx : p.tables.exec = Jvm.exec) (hb : c.code = cc) (hown : s.vm.findClass own = some m.cls) (hcl : (Cond.classLink own x "[[I").before args s = true) (hao : (Cond.arrayOver (.array .int)).before args s = true) (hac : (Cond.arrayClass .int).before args s = true) (hK : va_K D cl tys s) (hty : ∀ t ty, am_ty t = some ty → tys[t]? = some (cy t, ty)) (hA : ∀ q, s.heap.size ≤ q → A q) (hdg : decode cc pc = .ok (.multianewarray x 2, 4)) :
    am_GOK p l e R s m args below meth c A D cl cy nL n0 s0 pc 6 := by
  intro n k restK h al H locs lk Q hn hk hI hlk hn0 hs0 hc1 hc2 kk
  have hcy : s.vm.findClass (FieldType.array .int).toString = some (cy 0) := (hK.2 0 _ (hty 0 .int rfl)).2
  have hn1 : n.toNatClampNeg < 1000 := Nat.not_le.mp fun q => hn (Or.inr q)
  have hk1 : k.toNatClampNeg < 1000 := Nat.not_le.mp fun q => hk (Or.inr q)
  have e0 : am_wl cy al h ++ va_pl [] (fun _ => .inr (0, [])) = am_wl cy al h := by simp [va_pl]
  refine W.cs rfl rfl (va_mna (X := am_wl cy al h) (L := []) (f := fun _ => .inr (0, [])) (ty := .int) (cy := cy 0) (z := (k.toNatClampNeg, .inl (fun _ => 0))) (N' := n.toNatClampNeg) (K' := k.toNatClampNeg) hx hb hown hcl hao hac hcy hK (by rw [e0]; exact hI.1) (by rw [e0]; exact hI.2.1) hI.2.2.1 hA (fun q => hn (Or.inl q)) (fun q => hk (Or.inl q)) rfl rfl (by omega) ?_ (by omega) rfl rfl (by omega) (by omega) ?_ hdg ?_)
  · exact Nat.le_trans (Nat.mul_le_mul (Nat.le_of_lt hk1) (show componentBytes .int ≤ 8 by decide)) (by decide)
  · intro c1
    show ({ cls := c1, slots := Array.replicate k.toNatClampNeg (.int 0), vm := .none } : Cell) = arrV c1 k.toNatClampNeg (fun _ => .int 0)
    rw [arrV_new]
  · intro q r cA H1 hr1 hr2 hK1 hP hD hS
    have r1 := (hK1.2 tys.length (cA, .array .int) (by simp)).2
    have r2 := (hK.2 6 _ (hty 6 _ rfl)).2
    have ec : cA = cy 6 := Option.some.inj (r1.symm.trans r2)
    subst ec
    obtain ⟨al', hal'⟩ : ∃ al' : Nat → Nat, al' = fun i => if i < h.1.length then al i else if i = h.1.length then q else r (i - h.1.length - 1) := ⟨_, rfl⟩
    have a1 : ∀ i, i < h.1.length → al' i = al i := fun i hi => by rw [hal']; exact if_pos hi
    have a2 : al' h.1.length = q := by rw [hal']; simp
    have a3 : ∀ j, al' (h.1.length + 1 + j) = r j := fun j => by
      rw [hal']
      show (if _ then _ else if _ then _ else _) = _
      rw [if_neg (by omega), if_neg (by omega)]
      congr 1
      omega
    have ew : am_wl cy al' (h.1 ++ ([.inl (6, n.toNatClampNeg, some ((List.range n.toNatClampNeg).map fun i => some (h.1.length + 1 + i)))] ++ List.replicate n.toNatClampNeg (.inl (0, k.toNatClampNeg, none))), h.2)
        = (am_wl cy al h ++ [(q, .inl (cy 6, n.toNatClampNeg, .inr (.inr (.inr (.inr (fun i => if i < n.toNatClampNeg then some (r i) else none))))))]) ++ va_pl ([] ++ (List.range n.toNatClampNeg).map r) (vr_up (fun _ => .inr (0, [])) ((List.range n.toNatClampNeg).map r) (.inl (cy 0, k.toNatClampNeg, .inl (fun _ => 0)))) := by
      obtain ⟨ds, hds⟩ : ∃ ds : List am_D, ds = [.inl (6, n.toNatClampNeg, some ((List.range n.toNatClampNeg).map fun i => some (h.1.length + 1 + i)))] ++ List.replicate n.toNatClampNeg (.inl (0, k.toNatClampNeg, none)) := ⟨_, rfl⟩
      obtain ⟨rt, hrt⟩ : ∃ rt : va_W, rt = va_pl ([] ++ (List.range n.toNatClampNeg).map r) (vr_up (fun _ => .inr (0, [])) ((List.range n.toNatClampNeg).map r) (.inl (cy 0, k.toNatClampNeg, .inl (fun _ => 0)))) := ⟨_, rfl⟩
      obtain ⟨x0, hx0⟩ : ∃ x0 : Nat × va_E, x0 = (q, .inl (cy 6, n.toNatClampNeg, .inr (.inr (.inr (.inr (fun i => if i < n.toNatClampNeg then some (r i) else none)))))) := ⟨_, rfl⟩
      rw [← hds, ← hrt, ← hx0, List.append_assoc]
      apply List.ext_getElem?
      intro j
      have g0 : (am_wl cy al' (h.1 ++ ds, h.2))[j]? = ((h.1 ++ ds)[j]?).map (fun d => (al' j, am_ex cy al' h.2 j d)) := by
        unfold am_wl
        rw [List.getElem?_mapIdx]
      rw [g0]
      by_cases hj : j < h.1.length
      · have hd2 : h.1[j]? = some h.1[j] := List.getElem?_eq_getElem hj
        have g1 : (h.1 ++ ds)[j]? = h.1[j]? := List.getElem?_append_left hj
        have g2 : (am_wl cy al h ++ ([x0] ++ rt))[j]? = (am_wl cy al h)[j]? := List.getElem?_append_left (by rw [am_wl_len]; exact hj)
        rw [g1, g2, am_wl_at hd2, hd2]
        show some (_, _) = _
        rw [a1 j hj, am_ex_eq rfl a1 (hI.2.2.2.1 j _ hd2)]
      · have g1 : (h.1 ++ ds)[j]? = ds[j - h.1.length]? := List.getElem?_append_right (by omega)
        have g2 : (am_wl cy al h ++ ([x0] ++ rt))[j]? = ([x0] ++ rt)[j - h.1.length]? := by
          have := List.getElem?_append_right (l₁ := am_wl cy al h) (l₂ := [x0] ++ rt) (i := j) (by rw [am_wl_len]; omega)
          rw [am_wl_len] at this
          exact this
        rw [g1, g2]
        by_cases hk0 : j = h.1.length
        · subst hk0
          rw [Nat.sub_self, hds, hx0]
          show some (al' h.1.length, (Sum.inl (cy 6, n.toNatClampNeg, .inr (.inr (.inr (.inr (am_rf al' _))))) : va_E)) = some (q, _)
          rw [a2]
          have ef : am_rf al' ((List.range n.toNatClampNeg).map fun i => some (h.1.length + 1 + i)) = fun i => if i < n.toNatClampNeg then some (r i) else none := by
            funext i
            unfold am_rf
            rw [List.getElem?_map]
            by_cases hi : i < n.toNatClampNeg
            · rw [List.getElem?_range hi, if_pos hi]
              exact congrArg some (a3 i)
            · rw [List.getElem?_eq_none (by rw [List.length_range]; omega), if_neg hi]
              rfl
          rw [ef]
        · obtain ⟨i, hi⟩ : ∃ i, j = h.1.length + 1 + i := ⟨j - h.1.length - 1, by omega⟩
          subst hi
          rw [show h.1.length + 1 + i - h.1.length = i + 1 by omega, hds]
          show (((List.replicate n.toNatClampNeg (Sum.inl (0, k.toNatClampNeg, none)))[i]?).map _) = rt[i]?
          rw [hrt]
          unfold va_pl
          rw [List.nil_append, List.getElem?_map, List.getElem?_map, List.getElem?_replicate]
          by_cases hin : i < n.toNatClampNeg
          · rw [if_pos hin, List.getElem?_range hin]
            show some (al' (h.1.length + 1 + i), (Sum.inl (cy 0, k.toNatClampNeg, .inl (h.2 (h.1.length + 1 + i))) : va_E)) = some (r i, _)
            have ez : h.2 (h.1.length + 1 + i) = fun _ => 0 := funext fun z => hI.2.2.2.2 _ _ (by omega)
            rw [a3, vr_up_in (List.mem_map.mpr ⟨i, List.mem_range.mpr hin, rfl⟩), ez]
          · rw [if_neg hin, List.getElem?_eq_none (by rw [List.length_range]; omega)]
            rfl
    have hl : ∀ tq : List am_D, (h.1 ++ tq).length = h.1.length + tq.length := fun tq => List.length_append
    have kk := kk al' H1 a1 ⟨by rw [ew]; exact hP, by rw [ew]; exact hD, hS, fun i d hd => ?_, fun i z hi => ?_⟩
    · rw [a2] at kk
      exact W.cs (by omega) (by omega) kk
    · show am_dw (h.1 ++ _).length d
      have hd : (h.1 ++ ([.inl (6, n.toNatClampNeg, some ((List.range n.toNatClampNeg).map fun i => some (h.1.length + 1 + i)))] ++ List.replicate n.toNatClampNeg (.inl (0, k.toNatClampNeg, none))))[i]? = some d := hd
      rw [hl, List.length_append, List.length_replicate, List.length_singleton]
      by_cases hi : i < h.1.length
      · rw [List.getElem?_append_left hi] at hd
        exact am_dw_up (by omega) (hI.2.2.2.1 i d hd)
      · rw [List.getElem?_append_right (by omega)] at hd
        rcases List.mem_append.mp (List.mem_of_getElem? hd) with hm | hm
        · rw [List.mem_singleton.mp hm]
          refine ⟨by simp, fun j r2 hj => ?_, _, rfl, rfl⟩
          rw [List.getElem?_map] at hj
          by_cases hj2 : j < n.toNatClampNeg
          · rw [List.getElem?_range hj2] at hj
            cases hj
            omega
          · rw [List.getElem?_eq_none (by rw [List.length_range]; omega)] at hj
            cases hj
        · rw [(List.mem_replicate.mp hm).2]
          trivial
    · refine hI.2.2.2.2 i z ?_
      have hi2 := hi
      dsimp only at hi2
      rw [hl] at hi2
      omega
theorem am_KG {y : MethodName} {Ts : List Jvm.Cond} (hsub : ∀ w ∈ Ts, w ∈ am_tb) (hw : (am_in Ts (.classLink y.cls x "[[I") && (am_in Ts (.arrayOver (.array .int)) && am_in Ts (.arrayClass .int))) = true) : am_Kg l y cl cc nL x 6 := by
  intro p e R s m args below meth c A D cy tys n0 s0 pc S hN hK hty hA hd
  simp only [Bool.and_eq_true] at hw
  obtain ⟨w1, w2, w3⟩ := hw
  obtain ⟨hx, hb, hml, ho, hts⟩ := S
  exact am_gok hx hb ho (am_in_ok hts hsub w1) (am_in_ok hts hsub w2) (am_in_ok hts hsub w3) hK hty hA hd
end AMG
end
