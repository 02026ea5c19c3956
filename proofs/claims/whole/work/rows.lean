section
-- ===== PART A: goes FIRST, ahead of the names: the tables' words, and 'selects' of the private methods out of them =====
/-- a private method of a class that the tables say can be made, by its rows of tables_1 -/
def lw_okq (q : MethodName × Nat) : Prop := (q.1.cls ≠ "java/lang/invoke/MethodHandle" ∧ q.1.cls ≠ "java/lang/invoke/VarHandle") ∧ Cond.instantiable q.1.cls q.2 ∈ tables_1 ∧ Cond.privateMethod q.1 ∈ tables_1 ∧ Cond.instanceMethod q.1 ∈ tables_1
theorem lw_p0 : lw_okq (⟨"DoorsThatRemember$Text", "scanItem", "(I)I"⟩, 4) := ⟨⟨by decide +kernel, by decide +kernel⟩, List.mem_of_getElem? (i := 20) (by decide +kernel), List.mem_of_getElem? (i := 274) (by decide +kernel), List.mem_of_getElem? (i := 275) (by decide +kernel)⟩
theorem lw_p1 : lw_okq (⟨"DoorsThatRemember$Text", "figuresAt", "(I)I"⟩, 4) := ⟨⟨by decide +kernel, by decide +kernel⟩, List.mem_of_getElem? (i := 20) (by decide +kernel), List.mem_of_getElem? (i := 278) (by decide +kernel), List.mem_of_getElem? (i := 279) (by decide +kernel)⟩
theorem lw_p2 : lw_okq (⟨"DoorsThatRemember$Text", "isFigure", "(I)Z"⟩, 4) := ⟨⟨by decide +kernel, by decide +kernel⟩, List.mem_of_getElem? (i := 20) (by decide +kernel), List.mem_of_getElem? (i := 282) (by decide +kernel), List.mem_of_getElem? (i := 283) (by decide +kernel)⟩
theorem lw_p3 : lw_okq (⟨"DoorsThatRemember$Text", "byteAt", "(I)I"⟩, 4) := ⟨⟨by decide +kernel, by decide +kernel⟩, List.mem_of_getElem? (i := 20) (by decide +kernel), List.mem_of_getElem? (i := 286) (by decide +kernel), List.mem_of_getElem? (i := 287) (by decide +kernel)⟩
theorem lw_p4 : lw_okq (⟨"DoorsThatRemember$Text", "numberAt", "(II)I"⟩, 4) := ⟨⟨by decide +kernel, by decide +kernel⟩, List.mem_of_getElem? (i := 20) (by decide +kernel), List.mem_of_getElem? (i := 294) (by decide +kernel), List.mem_of_getElem? (i := 295) (by decide +kernel)⟩
theorem lw_p5 : lw_okq (⟨"DoorsThatRemember$Plan", "takeRooms", "(I)Z"⟩, 15) := ⟨⟨by decide +kernel, by decide +kernel⟩, List.mem_of_getElem? (i := 119) (by decide +kernel), List.mem_of_getElem? (i := 303) (by decide +kernel), List.mem_of_getElem? (i := 304) (by decide +kernel)⟩
theorem lw_p6 : lw_okq (⟨"DoorsThatRemember$Plan", "takeDoor", "(III)Z"⟩, 15) := ⟨⟨by decide +kernel, by decide +kernel⟩, List.mem_of_getElem? (i := 119) (by decide +kernel), List.mem_of_getElem? (i := 308) (by decide +kernel), List.mem_of_getElem? (i := 309) (by decide +kernel)⟩
theorem lw_p7 : lw_okq (⟨"DoorsThatRemember$Plan", "takeLodger", "(III)Z"⟩, 15) := ⟨⟨by decide +kernel, by decide +kernel⟩, List.mem_of_getElem? (i := 119) (by decide +kernel), List.mem_of_getElem? (i := 313) (by decide +kernel), List.mem_of_getElem? (i := 314) (by decide +kernel)⟩
theorem lw_p8 : lw_okq (⟨"DoorsThatRemember$Plan", "takeGrudge", "(III)Z"⟩, 15) := ⟨⟨by decide +kernel, by decide +kernel⟩, List.mem_of_getElem? (i := 119) (by decide +kernel), List.mem_of_getElem? (i := 318) (by decide +kernel), List.mem_of_getElem? (i := 319) (by decide +kernel)⟩
theorem lw_p9 : lw_okq (⟨"DoorsThatRemember$Plan", "takePassing", "(II)Z"⟩, 15) := ⟨⟨by decide +kernel, by decide +kernel⟩, List.mem_of_getElem? (i := 119) (by decide +kernel), List.mem_of_getElem? (i := 322) (by decide +kernel), List.mem_of_getElem? (i := 323) (by decide +kernel)⟩
theorem lw_p10 : lw_okq (⟨"DoorsThatRemember$Plan", "takeWear", "(I)Z"⟩, 15) := ⟨⟨by decide +kernel, by decide +kernel⟩, List.mem_of_getElem? (i := 119) (by decide +kernel), List.mem_of_getElem? (i := 326) (by decide +kernel), List.mem_of_getElem? (i := 327) (by decide +kernel)⟩
theorem lw_p11 : lw_okq (⟨"DoorsThatRemember$Plan", "takeOil", "(I)Z"⟩, 15) := ⟨⟨by decide +kernel, by decide +kernel⟩, List.mem_of_getElem? (i := 119) (by decide +kernel), List.mem_of_getElem? (i := 330) (by decide +kernel), List.mem_of_getElem? (i := 331) (by decide +kernel)⟩
theorem lw_p12 : lw_okq (⟨"DoorsThatRemember$Plan", "takeDraught", "(II)Z"⟩, 15) := ⟨⟨by decide +kernel, by decide +kernel⟩, List.mem_of_getElem? (i := 119) (by decide +kernel), List.mem_of_getElem? (i := 334) (by decide +kernel), List.mem_of_getElem? (i := 335) (by decide +kernel)⟩
theorem lw_p13 : lw_okq (⟨"DoorsThatRemember", "isDoor", "(I)Z"⟩, 9) := ⟨⟨by decide +kernel, by decide +kernel⟩, List.mem_of_getElem? (i := 12) (by decide +kernel), List.mem_of_getElem? (i := 354) (by decide +kernel), List.mem_of_getElem? (i := 355) (by decide +kernel)⟩
theorem lw_p14 : lw_okq (⟨"DoorsThatRemember", "isLodger", "(I)Z"⟩, 9) := ⟨⟨by decide +kernel, by decide +kernel⟩, List.mem_of_getElem? (i := 12) (by decide +kernel), List.mem_of_getElem? (i := 363) (by decide +kernel), List.mem_of_getElem? (i := 364) (by decide +kernel)⟩
theorem lw_p15 : lw_okq (⟨"DoorsThatRemember$Past", "dropOldest", "()V"⟩, 2) := ⟨⟨by decide +kernel, by decide +kernel⟩, List.mem_of_getElem? (i := 70) (by decide +kernel), List.mem_of_getElem? (i := 388) (by decide +kernel), List.mem_of_getElem? (i := 389) (by decide +kernel)⟩
def lw_privs_1 : List (MethodName × Nat) := [(⟨"DoorsThatRemember$Text", "scanItem", "(I)I"⟩, 4), (⟨"DoorsThatRemember$Text", "figuresAt", "(I)I"⟩, 4), (⟨"DoorsThatRemember$Text", "isFigure", "(I)Z"⟩, 4), (⟨"DoorsThatRemember$Text", "byteAt", "(I)I"⟩, 4), (⟨"DoorsThatRemember$Text", "numberAt", "(II)I"⟩, 4), (⟨"DoorsThatRemember$Plan", "takeRooms", "(I)Z"⟩, 15), (⟨"DoorsThatRemember$Plan", "takeDoor", "(III)Z"⟩, 15), (⟨"DoorsThatRemember$Plan", "takeLodger", "(III)Z"⟩, 15), (⟨"DoorsThatRemember$Plan", "takeGrudge", "(III)Z"⟩, 15), (⟨"DoorsThatRemember$Plan", "takePassing", "(II)Z"⟩, 15), (⟨"DoorsThatRemember$Plan", "takeWear", "(I)Z"⟩, 15), (⟨"DoorsThatRemember$Plan", "takeOil", "(I)Z"⟩, 15), (⟨"DoorsThatRemember$Plan", "takeDraught", "(II)Z"⟩, 15), (⟨"DoorsThatRemember", "isDoor", "(I)Z"⟩, 9), (⟨"DoorsThatRemember", "isLodger", "(I)Z"⟩, 9), (⟨"DoorsThatRemember$Past", "dropOldest", "()V"⟩, 2)]
theorem lw_r1 : ∀ q ∈ lw_privs_1, lw_okq q := List.forall_mem_cons.mpr ⟨lw_p0, List.forall_mem_cons.mpr ⟨lw_p1, List.forall_mem_cons.mpr ⟨lw_p2, List.forall_mem_cons.mpr ⟨lw_p3, List.forall_mem_cons.mpr ⟨lw_p4, List.forall_mem_cons.mpr ⟨lw_p5, List.forall_mem_cons.mpr ⟨lw_p6, List.forall_mem_cons.mpr ⟨lw_p7, List.forall_mem_cons.mpr ⟨lw_p8, List.forall_mem_cons.mpr ⟨lw_p9, List.forall_mem_cons.mpr ⟨lw_p10, List.forall_mem_cons.mpr ⟨lw_p11, List.forall_mem_cons.mpr ⟨lw_p12, List.forall_mem_cons.mpr ⟨lw_p13, List.forall_mem_cons.mpr ⟨lw_p14, List.forall_mem_cons.mpr ⟨lw_p15, fun _ h => absurd h List.not_mem_nil⟩⟩⟩⟩⟩⟩⟩⟩⟩⟩⟩⟩⟩⟩⟩⟩
theorem lw_p16 : lw_okq (⟨"DoorsThatRemember$Past", "slotAt", "(I)LDoorsThatRemember$House;"⟩, 2) := ⟨⟨by decide +kernel, by decide +kernel⟩, List.mem_of_getElem? (i := 70) (by decide +kernel), List.mem_of_getElem? (i := 392) (by decide +kernel), List.mem_of_getElem? (i := 393) (by decide +kernel)⟩
theorem lw_p17 : lw_okq (⟨"DoorsThatRemember$House", "isOiled", "(I)Z"⟩, 6) := ⟨⟨by decide +kernel, by decide +kernel⟩, List.mem_of_getElem? (i := 41) (by decide +kernel), List.mem_of_getElem? (i := 408) (by decide +kernel), List.mem_of_getElem? (i := 409) (by decide +kernel)⟩
theorem lw_p18 : lw_okq (⟨"DoorsThatRemember$House", "setGrudge", "(III)V"⟩, 6) := ⟨⟨by decide +kernel, by decide +kernel⟩, List.mem_of_getElem? (i := 41) (by decide +kernel), List.mem_of_getElem? (i := 429) (by decide +kernel), List.mem_of_getElem? (i := 430) (by decide +kernel)⟩
theorem lw_p19 : lw_okq (⟨"DoorsThatRemember$House", "passOn", "(LDoorsThatRemember$Plan;I)V"⟩, 6) := ⟨⟨by decide +kernel, by decide +kernel⟩, List.mem_of_getElem? (i := 41) (by decide +kernel), List.mem_of_getElem? (i := 450) (by decide +kernel), List.mem_of_getElem? (i := 451) (by decide +kernel)⟩
theorem lw_p20 : lw_okq (⟨"DoorsThatRemember$House", "dryOil", "()V"⟩, 6) := ⟨⟨by decide +kernel, by decide +kernel⟩, List.mem_of_getElem? (i := 41) (by decide +kernel), List.mem_of_getElem? (i := 456) (by decide +kernel), List.mem_of_getElem? (i := 457) (by decide +kernel)⟩
theorem lw_p21 : lw_okq (⟨"DoorsThatRemember", "isRoom", "(I)Z"⟩, 9) := ⟨⟨by decide +kernel, by decide +kernel⟩, List.mem_of_getElem? (i := 12) (by decide +kernel), List.mem_of_getElem? (i := 473) (by decide +kernel), List.mem_of_getElem? (i := 474) (by decide +kernel)⟩
theorem lw_p22 : lw_okq (⟨"DoorsThatRemember$Ways", "shorten", "(LDoorsThatRemember$Plan;)Z"⟩, 2) := ⟨⟨by decide +kernel, by decide +kernel⟩, List.mem_of_getElem? (i := 90) (by decide +kernel), List.mem_of_getElem? (i := 488) (by decide +kernel), List.mem_of_getElem? (i := 489) (by decide +kernel)⟩
theorem lw_p23 : lw_okq (⟨"DoorsThatRemember", "isInTimeWith", "(III)Z"⟩, 9) := ⟨⟨by decide +kernel, by decide +kernel⟩, List.mem_of_getElem? (i := 12) (by decide +kernel), List.mem_of_getElem? (i := 517) (by decide +kernel), List.mem_of_getElem? (i := 518) (by decide +kernel)⟩
theorem lw_p24 : lw_okq (⟨"DoorsThatRemember", "grudgeBehindWith", "(IIII)I"⟩, 9) := ⟨⟨by decide +kernel, by decide +kernel⟩, List.mem_of_getElem? (i := 12) (by decide +kernel), List.mem_of_getElem? (i := 566) (by decide +kernel), List.mem_of_getElem? (i := 567) (by decide +kernel)⟩
theorem lw_p25 : lw_okq (⟨"DoorsThatRemember", "grudgeAgainstNew", "(I)I"⟩, 9) := ⟨⟨by decide +kernel, by decide +kernel⟩, List.mem_of_getElem? (i := 12) (by decide +kernel), List.mem_of_getElem? (i := 584) (by decide +kernel), List.mem_of_getElem? (i := 585) (by decide +kernel)⟩
theorem lw_p26 : lw_okq (⟨"DoorsThatRemember", "goThereAndBack", "(I)V"⟩, 9) := ⟨⟨by decide +kernel, by decide +kernel⟩, List.mem_of_getElem? (i := 12) (by decide +kernel), List.mem_of_getElem? (i := 599) (by decide +kernel), List.mem_of_getElem? (i := 600) (by decide +kernel)⟩
theorem lw_p27 : lw_okq (⟨"DoorsThatRemember", "goTo", "(IIZ)V"⟩, 9) := ⟨⟨by decide +kernel, by decide +kernel⟩, List.mem_of_getElem? (i := 12) (by decide +kernel), List.mem_of_getElem? (i := 603) (by decide +kernel), List.mem_of_getElem? (i := 604) (by decide +kernel)⟩
theorem lw_p28 : lw_okq (⟨"DoorsThatRememberModel", "begins", "()V"⟩, 19) := ⟨⟨by decide +kernel, by decide +kernel⟩, List.mem_of_getElem? (i := 624) (by decide +kernel), List.mem_of_getElem? (i := 630) (by decide +kernel), List.mem_of_getElem? (i := 631) (by decide +kernel)⟩
theorem lw_p29 : lw_okq (⟨"DoorsThatRememberModel", "takes", "()V"⟩, 19) := ⟨⟨by decide +kernel, by decide +kernel⟩, List.mem_of_getElem? (i := 624) (by decide +kernel), List.mem_of_getElem? (i := 634) (by decide +kernel), List.mem_of_getElem? (i := 635) (by decide +kernel)⟩
theorem lw_p30 : lw_okq (⟨"DoorsThatRememberModel", "isItem", "()Z"⟩, 19) := ⟨⟨by decide +kernel, by decide +kernel⟩, List.mem_of_getElem? (i := 624) (by decide +kernel), List.mem_of_getElem? (i := 713) (by decide +kernel), List.mem_of_getElem? (i := 714) (by decide +kernel)⟩
theorem lw_p31 : lw_okq (⟨"DoorsThatRememberModel", "number", "()I"⟩, 19) := ⟨⟨by decide +kernel, by decide +kernel⟩, List.mem_of_getElem? (i := 624) (by decide +kernel), List.mem_of_getElem? (i := 720) (by decide +kernel), List.mem_of_getElem? (i := 721) (by decide +kernel)⟩
def lw_privs_2 : List (MethodName × Nat) := [(⟨"DoorsThatRemember$Past", "slotAt", "(I)LDoorsThatRemember$House;"⟩, 2), (⟨"DoorsThatRemember$House", "isOiled", "(I)Z"⟩, 6), (⟨"DoorsThatRemember$House", "setGrudge", "(III)V"⟩, 6), (⟨"DoorsThatRemember$House", "passOn", "(LDoorsThatRemember$Plan;I)V"⟩, 6), (⟨"DoorsThatRemember$House", "dryOil", "()V"⟩, 6), (⟨"DoorsThatRemember", "isRoom", "(I)Z"⟩, 9), (⟨"DoorsThatRemember$Ways", "shorten", "(LDoorsThatRemember$Plan;)Z"⟩, 2), (⟨"DoorsThatRemember", "isInTimeWith", "(III)Z"⟩, 9), (⟨"DoorsThatRemember", "grudgeBehindWith", "(IIII)I"⟩, 9), (⟨"DoorsThatRemember", "grudgeAgainstNew", "(I)I"⟩, 9), (⟨"DoorsThatRemember", "goThereAndBack", "(I)V"⟩, 9), (⟨"DoorsThatRemember", "goTo", "(IIZ)V"⟩, 9), (⟨"DoorsThatRememberModel", "begins", "()V"⟩, 19), (⟨"DoorsThatRememberModel", "takes", "()V"⟩, 19), (⟨"DoorsThatRememberModel", "isItem", "()Z"⟩, 19), (⟨"DoorsThatRememberModel", "number", "()I"⟩, 19)]
theorem lw_r2 : ∀ q ∈ lw_privs_2, lw_okq q := List.forall_mem_cons.mpr ⟨lw_p16, List.forall_mem_cons.mpr ⟨lw_p17, List.forall_mem_cons.mpr ⟨lw_p18, List.forall_mem_cons.mpr ⟨lw_p19, List.forall_mem_cons.mpr ⟨lw_p20, List.forall_mem_cons.mpr ⟨lw_p21, List.forall_mem_cons.mpr ⟨lw_p22, List.forall_mem_cons.mpr ⟨lw_p23, List.forall_mem_cons.mpr ⟨lw_p24, List.forall_mem_cons.mpr ⟨lw_p25, List.forall_mem_cons.mpr ⟨lw_p26, List.forall_mem_cons.mpr ⟨lw_p27, List.forall_mem_cons.mpr ⟨lw_p28, List.forall_mem_cons.mpr ⟨lw_p29, List.forall_mem_cons.mpr ⟨lw_p30, List.forall_mem_cons.mpr ⟨lw_p31, fun _ h => absurd h List.not_mem_nil⟩⟩⟩⟩⟩⟩⟩⟩⟩⟩⟩⟩⟩⟩⟩⟩
theorem lw_p32 : lw_okq (⟨"DoorsThatRememberModel", "isGood", "(I)Z"⟩, 19) := ⟨⟨by decide +kernel, by decide +kernel⟩, List.mem_of_getElem? (i := 624) (by decide +kernel), List.mem_of_getElem? (i := 727) (by decide +kernel), List.mem_of_getElem? (i := 728) (by decide +kernel)⟩
theorem lw_p33 : lw_okq (⟨"DoorsThatRememberModel", "isDoorPut", "()Z"⟩, 19) := ⟨⟨by decide +kernel, by decide +kernel⟩, List.mem_of_getElem? (i := 624) (by decide +kernel), List.mem_of_getElem? (i := 732) (by decide +kernel), List.mem_of_getElem? (i := 733) (by decide +kernel)⟩
theorem lw_p34 : lw_okq (⟨"DoorsThatRememberModel", "isLodgerPut", "()Z"⟩, 19) := ⟨⟨by decide +kernel, by decide +kernel⟩, List.mem_of_getElem? (i := 624) (by decide +kernel), List.mem_of_getElem? (i := 737) (by decide +kernel), List.mem_of_getElem? (i := 738) (by decide +kernel)⟩
theorem lw_p35 : lw_okq (⟨"DoorsThatRememberModel", "isWhole", "()Z"⟩, 19) := ⟨⟨by decide +kernel, by decide +kernel⟩, List.mem_of_getElem? (i := 624) (by decide +kernel), List.mem_of_getElem? (i := 747) (by decide +kernel), List.mem_of_getElem? (i := 748) (by decide +kernel)⟩
theorem lw_p36 : lw_okq (⟨"DoorsThatRememberModel", "isDoor", "(I)Z"⟩, 19) := ⟨⟨by decide +kernel, by decide +kernel⟩, List.mem_of_getElem? (i := 624) (by decide +kernel), List.mem_of_getElem? (i := 755) (by decide +kernel), List.mem_of_getElem? (i := 756) (by decide +kernel)⟩
theorem lw_p37 : lw_okq (⟨"DoorsThatRememberModel", "isLodger", "(I)Z"⟩, 19) := ⟨⟨by decide +kernel, by decide +kernel⟩, List.mem_of_getElem? (i := 624) (by decide +kernel), List.mem_of_getElem? (i := 764) (by decide +kernel), List.mem_of_getElem? (i := 765) (by decide +kernel)⟩
theorem lw_p38 : lw_okq (⟨"DoorsThatRememberModel", "isOf", "(II)Z"⟩, 19) := ⟨⟨by decide +kernel, by decide +kernel⟩, List.mem_of_getElem? (i := 624) (by decide +kernel), List.mem_of_getElem? (i := 776) (by decide +kernel), List.mem_of_getElem? (i := 777) (by decide +kernel)⟩
theorem lw_p39 : lw_okq (⟨"DoorsThatRememberModel", "known", "()V"⟩, 19) := ⟨⟨by decide +kernel, by decide +kernel⟩, List.mem_of_getElem? (i := 624) (by decide +kernel), List.mem_of_getElem? (i := 780) (by decide +kernel), List.mem_of_getElem? (i := 781) (by decide +kernel)⟩
theorem lw_p40 : lw_okq (⟨"DoorsThatRememberModel", "copies", "(II)V"⟩, 19) := ⟨⟨by decide +kernel, by decide +kernel⟩, List.mem_of_getElem? (i := 624) (by decide +kernel), List.mem_of_getElem? (i := 784) (by decide +kernel), List.mem_of_getElem? (i := 785) (by decide +kernel)⟩
theorem lw_p41 : lw_okq (⟨"DoorsThatRememberModel", "goes", "(IIIZ)I"⟩, 19) := ⟨⟨by decide +kernel, by decide +kernel⟩, List.mem_of_getElem? (i := 624) (by decide +kernel), List.mem_of_getElem? (i := 788) (by decide +kernel), List.mem_of_getElem? (i := 789) (by decide +kernel)⟩
theorem lw_p42 : lw_okq (⟨"DoorsThatRememberModel", "costs", "(III)I"⟩, 19) := ⟨⟨by decide +kernel, by decide +kernel⟩, List.mem_of_getElem? (i := 624) (by decide +kernel), List.mem_of_getElem? (i := 792) (by decide +kernel), List.mem_of_getElem? (i := 793) (by decide +kernel)⟩
theorem lw_p43 : lw_okq (⟨"DoorsThatRememberModel", "becomes", "(IIZ)I"⟩, 19) := ⟨⟨by decide +kernel, by decide +kernel⟩, List.mem_of_getElem? (i := 624) (by decide +kernel), List.mem_of_getElem? (i := 796) (by decide +kernel), List.mem_of_getElem? (i := 797) (by decide +kernel)⟩
theorem lw_p44 : lw_okq (⟨"DoorsThatRememberModel", "over", "(II)I"⟩, 19) := ⟨⟨by decide +kernel, by decide +kernel⟩, List.mem_of_getElem? (i := 624) (by decide +kernel), List.mem_of_getElem? (i := 800) (by decide +kernel), List.mem_of_getElem? (i := 801) (by decide +kernel)⟩
theorem lw_p45 : lw_okq (⟨"DoorsThatRememberModel", "nights", "(I)V"⟩, 19) := ⟨⟨by decide +kernel, by decide +kernel⟩, List.mem_of_getElem? (i := 624) (by decide +kernel), List.mem_of_getElem? (i := 813) (by decide +kernel), List.mem_of_getElem? (i := 814) (by decide +kernel)⟩
theorem lw_p46 : lw_okq (⟨"DoorsThatRememberModel", "isRoom", "(I)Z"⟩, 19) := ⟨⟨by decide +kernel, by decide +kernel⟩, List.mem_of_getElem? (i := 624) (by decide +kernel), List.mem_of_getElem? (i := 825) (by decide +kernel), List.mem_of_getElem? (i := 826) (by decide +kernel)⟩
theorem lw_p47 : lw_okq (⟨"DoorsThatRememberModel", "wayOf", "(IIII)I"⟩, 19) := ⟨⟨by decide +kernel, by decide +kernel⟩, List.mem_of_getElem? (i := 624) (by decide +kernel), List.mem_of_getElem? (i := 829) (by decide +kernel), List.mem_of_getElem? (i := 830) (by decide +kernel)⟩
def lw_privs_3 : List (MethodName × Nat) := [(⟨"DoorsThatRememberModel", "isGood", "(I)Z"⟩, 19), (⟨"DoorsThatRememberModel", "isDoorPut", "()Z"⟩, 19), (⟨"DoorsThatRememberModel", "isLodgerPut", "()Z"⟩, 19), (⟨"DoorsThatRememberModel", "isWhole", "()Z"⟩, 19), (⟨"DoorsThatRememberModel", "isDoor", "(I)Z"⟩, 19), (⟨"DoorsThatRememberModel", "isLodger", "(I)Z"⟩, 19), (⟨"DoorsThatRememberModel", "isOf", "(II)Z"⟩, 19), (⟨"DoorsThatRememberModel", "known", "()V"⟩, 19), (⟨"DoorsThatRememberModel", "copies", "(II)V"⟩, 19), (⟨"DoorsThatRememberModel", "goes", "(IIIZ)I"⟩, 19), (⟨"DoorsThatRememberModel", "costs", "(III)I"⟩, 19), (⟨"DoorsThatRememberModel", "becomes", "(IIZ)I"⟩, 19), (⟨"DoorsThatRememberModel", "over", "(II)I"⟩, 19), (⟨"DoorsThatRememberModel", "nights", "(I)V"⟩, 19), (⟨"DoorsThatRememberModel", "isRoom", "(I)Z"⟩, 19), (⟨"DoorsThatRememberModel", "wayOf", "(IIII)I"⟩, 19)]
theorem lw_r3 : ∀ q ∈ lw_privs_3, lw_okq q := List.forall_mem_cons.mpr ⟨lw_p32, List.forall_mem_cons.mpr ⟨lw_p33, List.forall_mem_cons.mpr ⟨lw_p34, List.forall_mem_cons.mpr ⟨lw_p35, List.forall_mem_cons.mpr ⟨lw_p36, List.forall_mem_cons.mpr ⟨lw_p37, List.forall_mem_cons.mpr ⟨lw_p38, List.forall_mem_cons.mpr ⟨lw_p39, List.forall_mem_cons.mpr ⟨lw_p40, List.forall_mem_cons.mpr ⟨lw_p41, List.forall_mem_cons.mpr ⟨lw_p42, List.forall_mem_cons.mpr ⟨lw_p43, List.forall_mem_cons.mpr ⟨lw_p44, List.forall_mem_cons.mpr ⟨lw_p45, List.forall_mem_cons.mpr ⟨lw_p46, List.forall_mem_cons.mpr ⟨lw_p47, fun _ h => absurd h List.not_mem_nil⟩⟩⟩⟩⟩⟩⟩⟩⟩⟩⟩⟩⟩⟩⟩⟩
theorem lw_p48 : lw_okq (⟨"DoorsThatRememberModel", "ways", "(IIII)V"⟩, 19) := ⟨⟨by decide +kernel, by decide +kernel⟩, List.mem_of_getElem? (i := 624) (by decide +kernel), List.mem_of_getElem? (i := 833) (by decide +kernel), List.mem_of_getElem? (i := 834) (by decide +kernel)⟩
theorem lw_p49 : lw_okq (⟨"DoorsThatRememberModel", "firstOf", "(IIII)I"⟩, 19) := ⟨⟨by decide +kernel, by decide +kernel⟩, List.mem_of_getElem? (i := 624) (by decide +kernel), List.mem_of_getElem? (i := 842) (by decide +kernel), List.mem_of_getElem? (i := 843) (by decide +kernel)⟩
theorem lw_p50 : lw_okq (⟨"DoorsThatRememberModel", "tries", "()V"⟩, 19) := ⟨⟨by decide +kernel, by decide +kernel⟩, List.mem_of_getElem? (i := 624) (by decide +kernel), List.mem_of_getElem? (i := 859) (by decide +kernel), List.mem_of_getElem? (i := 860) (by decide +kernel)⟩
theorem lw_p51 : lw_okq (⟨"DoorsThatRememberModel", "behinds", "(II)V"⟩, 19) := ⟨⟨by decide +kernel, by decide +kernel⟩, List.mem_of_getElem? (i := 624) (by decide +kernel), List.mem_of_getElem? (i := 870) (by decide +kernel), List.mem_of_getElem? (i := 871) (by decide +kernel)⟩
theorem lw_p52 : lw_okq (⟨"DoorsThatRememberModel", "news", "(I)I"⟩, 19) := ⟨⟨by decide +kernel, by decide +kernel⟩, List.mem_of_getElem? (i := 624) (by decide +kernel), List.mem_of_getElem? (i := 892) (by decide +kernel), List.mem_of_getElem? (i := 893) (by decide +kernel)⟩
theorem lw_p53 : lw_okq (⟨"DoorsThatRememberModel", "walks", "(IIZ)V"⟩, 19) := ⟨⟨by decide +kernel, by decide +kernel⟩, List.mem_of_getElem? (i := 624) (by decide +kernel), List.mem_of_getElem? (i := 904) (by decide +kernel), List.mem_of_getElem? (i := 905) (by decide +kernel)⟩
def lw_privs_4 : List (MethodName × Nat) := [(⟨"DoorsThatRememberModel", "ways", "(IIII)V"⟩, 19), (⟨"DoorsThatRememberModel", "firstOf", "(IIII)I"⟩, 19), (⟨"DoorsThatRememberModel", "tries", "()V"⟩, 19), (⟨"DoorsThatRememberModel", "behinds", "(II)V"⟩, 19), (⟨"DoorsThatRememberModel", "news", "(I)I"⟩, 19), (⟨"DoorsThatRememberModel", "walks", "(IIZ)V"⟩, 19)]
theorem lw_r4 : ∀ q ∈ lw_privs_4, lw_okq q := List.forall_mem_cons.mpr ⟨lw_p48, List.forall_mem_cons.mpr ⟨lw_p49, List.forall_mem_cons.mpr ⟨lw_p50, List.forall_mem_cons.mpr ⟨lw_p51, List.forall_mem_cons.mpr ⟨lw_p52, List.forall_mem_cons.mpr ⟨lw_p53, fun _ h => absurd h List.not_mem_nil⟩⟩⟩⟩⟩⟩
def lw_privs : List (MethodName × Nat) := lw_privs_1 ++ (lw_privs_2 ++ (lw_privs_3 ++ (lw_privs_4)))
def lw_tbl : List Cond := k2_sels lw_privs ++ tables_1
theorem lw_privs_ok : ∀ q ∈ lw_privs, lw_okq q := by
  show ∀ q ∈ lw_privs_1 ++ (lw_privs_2 ++ (lw_privs_3 ++ (lw_privs_4))), lw_okq q
  exact List.forall_mem_append.mpr ⟨lw_r1, List.forall_mem_append.mpr ⟨lw_r2, List.forall_mem_append.mpr ⟨lw_r3, lw_r4⟩⟩⟩
end
section
/-! ===== BEGIN words of one list among another's, by their places ===== -/
theorem goodIn_r {big : List Cond} (ws : List Cond) (ps : List Nat) (hp : ws = ps.filterMap (fun i => big[i]?)) (h : ws.all goodWord = true) : GoodIn big ws := by
  intro w hw
  have h1 := List.all_eq_true.mp h w hw
  rw [hp] at hw
  obtain ⟨i, -, hi⟩ := List.mem_filterMap.mp hw
  have hm : w ∈ big := by first | exact List.mem_of_getElem? hi | exact List.getElem?_mem hi
  exact ⟨hm, good_of_word h1⟩
theorem goodIn_app {big a b : List Cond} (ha : GoodIn big a) (hb : GoodIn big b) : GoodIn big (a ++ b) := fun w h => (List.mem_append.mp h).elim (ha w) (hb w)
theorem goodIn_ca {big a b : List Cond} {c : Cond} (ha : GoodIn big (c :: a)) (hb : GoodIn big b) : GoodIn big (c :: (a ++ b)) := fun w h => (List.mem_cons.mp h).elim (fun e => ha w (List.mem_cons.mpr (Or.inl e))) (fun h => (List.mem_append.mp h).elim (fun h => ha w (List.mem_cons.mpr (Or.inr h))) (hb w))
theorem goodIn_sub {big ws : List Cond} (hm : ∀ w ∈ ws, w ∈ big) (h : ws.all goodWord = true) : GoodIn big ws := fun w hw => ⟨hm w hw, good_of_word (List.all_eq_true.mp h w hw)⟩
/-! ===== END ===== -/

/-! ===== BEGIN printed: names, fields, word lists, decode rows ===== -/
def RX0 : String := "DoorsThatRemember$House"
def TX0 : u_T := fun k => match k with
  | 0 => ("DoorsThatRemember$House", "grudges", "[I", true)
  | 1 => ("DoorsThatRemember$House", "passing", "[I", true)
  | 2 => ("DoorsThatRemember$House", "oilLeft", "[I", true)
  | 3 => ("DoorsThatRemember$House", "place", "[I", true)
  | 4 => ("DoorsThatRemember$House", "minutes", "I", false)
  | _ => ("DoorsThatRemember$House", "nights", "I", false)
def tyX0 : Nat → FieldType := fun k => match k with
  | 0 => .array .int
  | 1 => .array .int
  | 2 => .array .int
  | 3 => .array .int
  | 4 => .int
  | _ => .int
abbrev wsX00 : List Cond := u_ws RX0 TX0 6
theorem nmX0 : ∀ a, a < 6 → ∀ b, b < 6 → a ≠ b → (TX0 a).2.1 ≠ (TX0 b).2.1 := by decide +kernel
theorem tyX0_ok : ∀ k, k < 6 → parseFieldDescriptor (TX0 k).2.2.1 = some (tyX0 k) := by decide +kernel
abbrev cX0_init : ByteArray := prog_2_method_1_code
def yX0_init : MethodName := ⟨RX0, "<init>", "()V"⟩
abbrev cX0_beginAs : ByteArray := prog_2_method_2_code
def yX0_beginAs : MethodName := ⟨RX0, "beginAs", "(LDoorsThatRemember$Plan;)V"⟩
abbrev cX0_become : ByteArray := prog_2_method_3_code
def yX0_become : MethodName := ⟨RX0, "become", "(LDoorsThatRemember$House;)V"⟩
abbrev cX0_grudgeOf : ByteArray := prog_2_method_4_code
def yX0_grudgeOf : MethodName := ⟨RX0, "grudgeOf", "(II)I"⟩
abbrev cX0_setGrudge : ByteArray := prog_2_method_5_code
def yX0_setGrudge : MethodName := ⟨RX0, "setGrudge", "(III)V"⟩
abbrev cX0_isOiled : ByteArray := prog_2_method_6_code
def yX0_isOiled : MethodName := ⟨RX0, "isOiled", "(I)Z"⟩
abbrev cX0_oiledDoors : ByteArray := prog_2_method_7_code
def yX0_oiledDoors : MethodName := ⟨RX0, "oiledDoors", "()I"⟩
abbrev cX0_minutesThrough : ByteArray := prog_2_method_8_code
def yX0_minutesThrough : MethodName := ⟨RX0, "minutesThrough", "(II)I"⟩
abbrev cX0_passThrough : ByteArray := prog_2_method_9_code
def yX0_passThrough : MethodName := ⟨RX0, "passThrough", "(LDoorsThatRemember$Plan;IIZ)I"⟩
abbrev cX0_sleep : ByteArray := prog_2_method_10_code
def yX0_sleep : MethodName := ⟨RX0, "sleep", "(LDoorsThatRemember$Plan;)V"⟩
abbrev cX0_sleepAgainstOne : ByteArray := prog_2_method_11_code
def yX0_sleepAgainstOne : MethodName := ⟨RX0, "sleepAgainstOne", "(LDoorsThatRemember$Plan;II)V"⟩
abbrev cX0_passOn : ByteArray := prog_2_method_12_code
def yX0_passOn : MethodName := ⟨RX0, "passOn", "(LDoorsThatRemember$Plan;I)V"⟩
abbrev cX0_dryOil : ByteArray := prog_2_method_13_code
def yX0_dryOil : MethodName := ⟨RX0, "dryOil", "()V"⟩
abbrev cX0_grudgesOfDoor : ByteArray := prog_2_method_14_code
def yX0_grudgesOfDoor : MethodName := ⟨RX0, "grudgesOfDoor", "(LDoorsThatRemember$Plan;I)I"⟩
abbrev cX0_allGrudges : ByteArray := prog_2_method_15_code
def yX0_allGrudges : MethodName := ⟨RX0, "allGrudges", "(LDoorsThatRemember$Plan;)I"⟩
def RX1 : String := "DoorsThatRemember$Past"
def TX1 : u_T := fun k => match k with
  | 0 => ("DoorsThatRemember$Past", "slots", "[LDoorsThatRemember$House;", true)
  | _ => ("DoorsThatRemember$Past", "size", "I", false)
def tyX1 : Nat → FieldType := fun k => match k with
  | 0 => .array (.object "DoorsThatRemember$House")
  | _ => .int
abbrev wsX10 : List Cond := u_ws RX1 TX1 2
theorem nmX1 : ∀ a, a < 2 → ∀ b, b < 2 → a ≠ b → (TX1 a).2.1 ≠ (TX1 b).2.1 := by decide +kernel
theorem tyX1_ok : ∀ k, k < 2 → parseFieldDescriptor (TX1 k).2.2.1 = some (tyX1 k) := by decide +kernel
abbrev cX1_init : ByteArray := prog_3_method_1_code
def yX1_init : MethodName := ⟨RX1, "<init>", "(I)V"⟩
abbrev cX1_forgetAll : ByteArray := prog_3_method_2_code
def yX1_forgetAll : MethodName := ⟨RX1, "forgetAll", "()V"⟩
abbrev cX1_push : ByteArray := prog_3_method_3_code
def yX1_push : MethodName := ⟨RX1, "push", "(LDoorsThatRemember$House;)V"⟩
abbrev cX1_pop : ByteArray := prog_3_method_4_code
def yX1_pop : MethodName := ⟨RX1, "pop", "(LDoorsThatRemember$House;)Z"⟩
abbrev cX1_slotAt : ByteArray := prog_3_method_5_code
def yX1_slotAt : MethodName := ⟨RX1, "slotAt", "(I)LDoorsThatRemember$House;"⟩
abbrev cX1_dropOldest : ByteArray := prog_3_method_6_code
def yX1_dropOldest : MethodName := ⟨RX1, "dropOldest", "()V"⟩
def RX2 : String := "DoorsThatRemember$Plan"
def TX2 : u_T := fun k => match k with
  | 0 => ("DoorsThatRemember$Plan", "sideA", "[I", true)
  | 1 => ("DoorsThatRemember$Plan", "sideB", "[I", true)
  | 2 => ("DoorsThatRemember$Plan", "passTo", "[I", true)
  | 3 => ("DoorsThatRemember$Plan", "draught", "[I", true)
  | 4 => ("DoorsThatRemember$Plan", "home", "[I", true)
  | 5 => ("DoorsThatRemember$Plan", "temper", "[I", true)
  | 6 => ("DoorsThatRemember$Plan", "goal", "[I", true)
  | 7 => ("DoorsThatRemember$Plan", "firstGrudges", "[I", true)
  | 8 => ("DoorsThatRemember$Plan", "roomCount", "I", false)
  | 9 => ("DoorsThatRemember$Plan", "doorCount", "I", false)
  | 10 => ("DoorsThatRemember$Plan", "lodgerCount", "I", false)
  | 11 => ("DoorsThatRemember$Plan", "tenths", "I", false)
  | 12 => ("DoorsThatRemember$Plan", "fade", "I", false)
  | 13 => ("DoorsThatRemember$Plan", "wear", "I", false)
  | _ => ("DoorsThatRemember$Plan", "oilLasts", "I", false)
def tyX2 : Nat → FieldType := fun k => match k with
  | 0 => .array .int
  | 1 => .array .int
  | 2 => .array .int
  | 3 => .array .int
  | 4 => .array .int
  | 5 => .array .int
  | 6 => .array .int
  | 7 => .array .int
  | 8 => .int
  | 9 => .int
  | 10 => .int
  | 11 => .int
  | 12 => .int
  | 13 => .int
  | _ => .int
abbrev wsX20 : List Cond := u_ws RX2 TX2 15
theorem nmX2 : ∀ a, a < 15 → ∀ b, b < 15 → a ≠ b → (TX2 a).2.1 ≠ (TX2 b).2.1 := by decide +kernel
theorem tyX2_ok : ∀ k, k < 15 → parseFieldDescriptor (TX2 k).2.2.1 = some (tyX2 k) := by decide +kernel
abbrev cX2_init : ByteArray := prog_4_method_1_code
def yX2_init : MethodName := ⟨RX2, "<init>", "()V"⟩
abbrev cX2_clear : ByteArray := prog_4_method_2_code
def yX2_clear : MethodName := ⟨RX2, "clear", "()V"⟩
abbrev cX2_addDoor : ByteArray := prog_4_method_3_code
def yX2_addDoor : MethodName := ⟨RX2, "addDoor", "(III)V"⟩
abbrev cX2_addLodger : ByteArray := prog_4_method_4_code
def yX2_addLodger : MethodName := ⟨RX2, "addLodger", "(III)V"⟩
abbrev cX2_take : ByteArray := prog_4_method_5_code
def yX2_take : MethodName := ⟨RX2, "take", "(II[I)Z"⟩
abbrev cX2_takeRooms : ByteArray := prog_4_method_6_code
def yX2_takeRooms : MethodName := ⟨RX2, "takeRooms", "(I)Z"⟩
abbrev cX2_takeDoor : ByteArray := prog_4_method_7_code
def yX2_takeDoor : MethodName := ⟨RX2, "takeDoor", "(III)Z"⟩
abbrev cX2_takeLodger : ByteArray := prog_4_method_8_code
def yX2_takeLodger : MethodName := ⟨RX2, "takeLodger", "(III)Z"⟩
abbrev cX2_takeGrudge : ByteArray := prog_4_method_9_code
def yX2_takeGrudge : MethodName := ⟨RX2, "takeGrudge", "(III)Z"⟩
abbrev cX2_takePassing : ByteArray := prog_4_method_10_code
def yX2_takePassing : MethodName := ⟨RX2, "takePassing", "(II)Z"⟩
abbrev cX2_takeWear : ByteArray := prog_4_method_11_code
def yX2_takeWear : MethodName := ⟨RX2, "takeWear", "(I)Z"⟩
abbrev cX2_takeOil : ByteArray := prog_4_method_12_code
def yX2_takeOil : MethodName := ⟨RX2, "takeOil", "(I)Z"⟩
abbrev cX2_takeDraught : ByteArray := prog_4_method_13_code
def yX2_takeDraught : MethodName := ⟨RX2, "takeDraught", "(II)Z"⟩
abbrev cX2_canStand : ByteArray := prog_4_method_14_code
def yX2_canStand : MethodName := ⟨RX2, "canStand", "()Z"⟩
abbrev cX2_otherSide : ByteArray := prog_4_method_15_code
def yX2_otherSide : MethodName := ⟨RX2, "otherSide", "(II)I"⟩
abbrev cX2_grudgeNext : ByteArray := prog_4_method_16_code
def yX2_grudgeNext : MethodName := ⟨RX2, "grudgeNext", "(IIZ)I"⟩
abbrev cX2_grudgeAfter : ByteArray := prog_4_method_17_code
def yX2_grudgeAfter : MethodName := ⟨RX2, "grudgeAfter", "(IIII)I"⟩
def RX3 : String := "DoorsThatRemember$Rooming"
def TX3 : u_T := fun k => match k with
  | 0 => ("DoorsThatRemember$Rooming", "loss", "[I", true)
  | 1 => ("DoorsThatRemember$Rooming", "lodgerCount", "I", false)
  | _ => ("DoorsThatRemember$Rooming", "roomCount", "I", false)
def tyX3 : Nat → FieldType := fun k => match k with
  | 0 => .array .int
  | 1 => .int
  | _ => .int
abbrev wsX30 : List Cond := u_ws RX3 TX3 3
theorem nmX3 : ∀ a, a < 3 → ∀ b, b < 3 → a ≠ b → (TX3 a).2.1 ≠ (TX3 b).2.1 := by decide +kernel
theorem tyX3_ok : ∀ k, k < 3 → parseFieldDescriptor (TX3 k).2.2.1 = some (tyX3 k) := by decide +kernel
abbrev cX3_init : ByteArray := prog_5_method_1_code
def yX3_init : MethodName := ⟨RX3, "<init>", "()V"⟩
abbrev cX3_measure : ByteArray := prog_5_method_2_code
def yX3_measure : MethodName := ⟨RX3, "measure", "(LDoorsThatRemember$Plan;LDoorsThatRemember$House;LDoorsThatRemember$Ways;)V"⟩
abbrev cX3_bestCode : ByteArray := prog_5_method_3_code
def yX3_bestCode : MethodName := ⟨RX3, "bestCode", "()I"⟩
abbrev cX3_sumOf : ByteArray := prog_5_method_4_code
def yX3_sumOf : MethodName := ⟨RX3, "sumOf", "(I)I"⟩
abbrev cX3_roomIn : ByteArray := prog_5_method_5_code
def yX3_roomIn : MethodName := ⟨RX3, "roomIn", "(II)I"⟩
def RX4 : String := "DoorsThatRemember$Text"
def TX4 : u_T := fun k => match k with
  | 0 => ("DoorsThatRemember$Text", "bytes", "[I", true)
  | 1 => ("DoorsThatRemember$Text", "numbers", "[I", true)
  | 2 => ("DoorsThatRemember$Text", "told", "I", false)
  | _ => ("DoorsThatRemember$Text", "length", "I", false)
def tyX4 : Nat → FieldType := fun k => match k with
  | 0 => .array .int
  | 1 => .array .int
  | 2 => .int
  | _ => .int
abbrev wsX40 : List Cond := u_ws RX4 TX4 4
theorem nmX4 : ∀ a, a < 4 → ∀ b, b < 4 → a ≠ b → (TX4 a).2.1 ≠ (TX4 b).2.1 := by decide +kernel
theorem tyX4_ok : ∀ k, k < 4 → parseFieldDescriptor (TX4 k).2.2.1 = some (tyX4 k) := by decide +kernel
abbrev cX4_init : ByteArray := prog_6_method_1_code
def yX4_init : MethodName := ⟨RX4, "<init>", "()V"⟩
abbrev cX4_append : ByteArray := prog_6_method_2_code
def yX4_append : MethodName := ⟨RX4, "append", "(I)V"⟩
abbrev cX4_readInto : ByteArray := prog_6_method_3_code
def yX4_readInto : MethodName := ⟨RX4, "readInto", "(LDoorsThatRemember$Plan;)I"⟩
abbrev cX4_scanItem : ByteArray := prog_6_method_4_code
def yX4_scanItem : MethodName := ⟨RX4, "scanItem", "(I)I"⟩
abbrev cX4_figuresAt : ByteArray := prog_6_method_5_code
def yX4_figuresAt : MethodName := ⟨RX4, "figuresAt", "(I)I"⟩
abbrev cX4_numberAt : ByteArray := prog_6_method_6_code
def yX4_numberAt : MethodName := ⟨RX4, "numberAt", "(II)I"⟩
abbrev cX4_byteAt : ByteArray := prog_6_method_7_code
def yX4_byteAt : MethodName := ⟨RX4, "byteAt", "(I)I"⟩
abbrev cX4_isFigure : ByteArray := prog_6_method_8_code
def yX4_isFigure : MethodName := ⟨RX4, "isFigure", "(I)Z"⟩
def RX5 : String := "DoorsThatRemember$Ways"
def TX5 : u_T := fun k => match k with
  | 0 => ("DoorsThatRemember$Ways", "least", "[I", true)
  | _ => ("DoorsThatRemember$Ways", "price", "[I", true)
def tyX5 : Nat → FieldType := fun k => match k with
  | 0 => .array .int
  | _ => .array .int
abbrev wsX50 : List Cond := u_ws RX5 TX5 2
theorem nmX5 : ∀ a, a < 2 → ∀ b, b < 2 → a ≠ b → (TX5 a).2.1 ≠ (TX5 b).2.1 := by decide +kernel
theorem tyX5_ok : ∀ k, k < 2 → parseFieldDescriptor (TX5 k).2.2.1 = some (tyX5 k) := by decide +kernel
abbrev cX5_init : ByteArray := prog_7_method_1_code
def yX5_init : MethodName := ⟨RX5, "<init>", "()V"⟩
abbrev cX5_measure : ByteArray := prog_7_method_2_code
def yX5_measure : MethodName := ⟨RX5, "measure", "(LDoorsThatRemember$Plan;LDoorsThatRemember$House;III)V"⟩
abbrev cX5_shorten : ByteArray := prog_7_method_3_code
def yX5_shorten : MethodName := ⟨RX5, "shorten", "(LDoorsThatRemember$Plan;)Z"⟩
abbrev cX5_minutesFrom : ByteArray := prog_7_method_4_code
def yX5_minutesFrom : MethodName := ⟨RX5, "minutesFrom", "(I)I"⟩
abbrev cX5_lowestDoorFrom : ByteArray := prog_7_method_5_code
def yX5_lowestDoorFrom : MethodName := ⟨RX5, "lowestDoorFrom", "(LDoorsThatRemember$Plan;I)I"⟩
def RX6 : String := "DoorsThatRemember"
def TX6 : u_T := fun k => match k with
  | 0 => ("DoorsThatRemember", "text", "LDoorsThatRemember$Text;", true)
  | 1 => ("DoorsThatRemember", "now", "LDoorsThatRemember$House;", true)
  | 2 => ("DoorsThatRemember", "trial", "LDoorsThatRemember$House;", true)
  | 3 => ("DoorsThatRemember", "undone", "LDoorsThatRemember$Past;", true)
  | 4 => ("DoorsThatRemember", "kept", "LDoorsThatRemember$Past;", true)
  | 5 => ("DoorsThatRemember", "ways", "LDoorsThatRemember$Ways;", true)
  | 6 => ("DoorsThatRemember", "rooming", "LDoorsThatRemember$Rooming;", true)
  | 7 => ("DoorsThatRemember", "plan", "LDoorsThatRemember$Plan;", false)
  | _ => ("DoorsThatRemember", "draft", "LDoorsThatRemember$Plan;", false)
def tyX6 : Nat → FieldType := fun k => match k with
  | 0 => .object "DoorsThatRemember$Text"
  | 1 => .object "DoorsThatRemember$House"
  | 2 => .object "DoorsThatRemember$House"
  | 3 => .object "DoorsThatRemember$Past"
  | 4 => .object "DoorsThatRemember$Past"
  | 5 => .object "DoorsThatRemember$Ways"
  | 6 => .object "DoorsThatRemember$Rooming"
  | 7 => .object "DoorsThatRemember$Plan"
  | _ => .object "DoorsThatRemember$Plan"
abbrev wsX60 : List Cond := u_ws RX6 TX6 9
theorem nmX6 : ∀ a, a < 9 → ∀ b, b < 9 → a ≠ b → (TX6 a).2.1 ≠ (TX6 b).2.1 := by decide +kernel
theorem tyX6_ok : ∀ k, k < 9 → parseFieldDescriptor (TX6 k).2.2.1 = some (tyX6 k) := by decide +kernel
abbrev cX6_init : ByteArray := prog_1_method_1_code
def yX6_init : MethodName := ⟨RX6, "<init>", "()V"⟩
abbrev cX6_write : ByteArray := prog_1_method_2_code
def yX6_write : MethodName := ⟨RX6, "write", "(IJ)I"⟩
abbrev cX6_wipe : ByteArray := prog_1_method_3_code
def yX6_wipe : MethodName := ⟨RX6, "wipe", "()I"⟩
abbrev cX6_fault : ByteArray := prog_1_method_4_code
def yX6_fault : MethodName := ⟨RX6, "fault", "()I"⟩
abbrev cX6_lay : ByteArray := prog_1_method_5_code
def yX6_lay : MethodName := ⟨RX6, "lay", "()I"⟩
abbrev cX6_door : ByteArray := prog_1_method_6_code
def yX6_door : MethodName := ⟨RX6, "door", "(II)I"⟩
abbrev cX6_lodger : ByteArray := prog_1_method_7_code
def yX6_lodger : MethodName := ⟨RX6, "lodger", "(II)I"⟩
abbrev cX6_grudge : ByteArray := prog_1_method_8_code
def yX6_grudge : MethodName := ⟨RX6, "grudge", "(II)I"⟩
abbrev cX6_go : ByteArray := prog_1_method_9_code
def yX6_go : MethodName := ⟨RX6, "go", "(IIZ)I"⟩
abbrev cX6_oil : ByteArray := prog_1_method_10_code
def yX6_oil : MethodName := ⟨RX6, "oil", "(I)I"⟩
abbrev cX6_night : ByteArray := prog_1_method_11_code
def yX6_night : MethodName := ⟨RX6, "night", "(I)I"⟩
abbrev cX6_undo : ByteArray := prog_1_method_12_code
def yX6_undo : MethodName := ⟨RX6, "undo", "()I"⟩
abbrev cX6_way : ByteArray := prog_1_method_13_code
def yX6_way : MethodName := ⟨RX6, "way", "(III)I"⟩
abbrev cX6_first : ByteArray := prog_1_method_14_code
def yX6_first : MethodName := ⟨RX6, "first", "(III)I"⟩
abbrev cX6_inTime : ByteArray := prog_1_method_15_code
def yX6_inTime : MethodName := ⟨RX6, "inTime", "(II)I"⟩
abbrev cX6_rooms : ByteArray := prog_1_method_16_code
def yX6_rooms : MethodName := ⟨RX6, "rooms", "(I)I"⟩
abbrev cX6_behind : ByteArray := prog_1_method_17_code
def yX6_behind : MethodName := ⟨RX6, "behind", "(III)I"⟩
abbrev cX6_worst : ByteArray := prog_1_method_18_code
def yX6_worst : MethodName := ⟨RX6, "worst", "(II)I"⟩
abbrev cX6_stop : ByteArray := prog_1_method_19_code
def yX6_stop : MethodName := ⟨RX6, "stop", "(IIII)I"⟩
abbrev cX6_how : ByteArray := prog_1_method_20_code
def yX6_how : MethodName := ⟨RX6, "how", "(IIIII)I"⟩
abbrev cX6_fresh : ByteArray := prog_1_method_21_code
def yX6_fresh : MethodName := ⟨RX6, "fresh", "(I)I"⟩
abbrev cX6_week : ByteArray := prog_1_method_22_code
def yX6_week : MethodName := ⟨RX6, "week", "(III)I"⟩
abbrev cX6_keep : ByteArray := prog_1_method_23_code
def yX6_keep : MethodName := ⟨RX6, "keep", "()I"⟩
abbrev cX6_back : ByteArray := prog_1_method_24_code
def yX6_back : MethodName := ⟨RX6, "back", "()I"⟩
abbrev cX6_count : ByteArray := prog_1_method_25_code
def yX6_count : MethodName := ⟨RX6, "count", "(I)I"⟩
abbrev cX6_isRoom : ByteArray := prog_1_method_26_code
def yX6_isRoom : MethodName := ⟨RX6, "isRoom", "(I)Z"⟩
abbrev cX6_isDoor : ByteArray := prog_1_method_27_code
def yX6_isDoor : MethodName := ⟨RX6, "isDoor", "(I)Z"⟩
abbrev cX6_isLodger : ByteArray := prog_1_method_28_code
def yX6_isLodger : MethodName := ⟨RX6, "isLodger", "(I)Z"⟩
abbrev cX6_isInTimeWith : ByteArray := prog_1_method_29_code
def yX6_isInTimeWith : MethodName := ⟨RX6, "isInTimeWith", "(III)Z"⟩
abbrev cX6_grudgeBehindWith : ByteArray := prog_1_method_30_code
def yX6_grudgeBehindWith : MethodName := ⟨RX6, "grudgeBehindWith", "(IIII)I"⟩
abbrev cX6_grudgeAgainstNew : ByteArray := prog_1_method_31_code
def yX6_grudgeAgainstNew : MethodName := ⟨RX6, "grudgeAgainstNew", "(I)I"⟩
abbrev cX6_goThereAndBack : ByteArray := prog_1_method_32_code
def yX6_goThereAndBack : MethodName := ⟨RX6, "goThereAndBack", "(I)V"⟩
abbrev cX6_goTo : ByteArray := prog_1_method_33_code
def yX6_goTo : MethodName := ⟨RX6, "goTo", "(IIZ)V"⟩
abbrev cX6_within : ByteArray := prog_1_method_34_code
def yX6_within : MethodName := ⟨RX6, "within", "(III)Z"⟩
abbrev cX6_holds : ByteArray := prog_1_method_35_code
def yX6_holds : MethodName := ⟨RX6, "holds", "(II)Z"⟩
abbrev cX6_at : ByteArray := prog_1_method_36_code
def yX6_at : MethodName := ⟨RX6, "at", "([II)I"⟩
abbrev cX6_put : ByteArray := prog_1_method_37_code
def yX6_put : MethodName := ⟨RX6, "put", "([III)V"⟩
abbrev cX6_fill : ByteArray := prog_1_method_38_code
def yX6_fill : MethodName := ⟨RX6, "fill", "([II)V"⟩
abbrev cX6_copy : ByteArray := prog_1_method_39_code
def yX6_copy : MethodName := ⟨RX6, "copy", "([I[I)V"⟩
abbrev cX6_worn : ByteArray := prog_1_method_40_code
def yX6_worn : MethodName := ⟨RX6, "worn", "(II)I"⟩
abbrev cX6_grown : ByteArray := prog_1_method_41_code
def yX6_grown : MethodName := ⟨RX6, "grown", "(II)I"⟩
def RX7 : String := "DoorsThatRememberModel"
def TX7 : u_T := fun k => match k with
  | 0 => ("DoorsThatRememberModel", "length", "I", false)
  | 1 => ("DoorsThatRememberModel", "text", "[B", true)
  | 2 => ("DoorsThatRememberModel", "at", "I", false)
  | 3 => ("DoorsThatRememberModel", "told", "[I", true)
  | 4 => ("DoorsThatRememberModel", "doors", "[I", true)
  | 5 => ("DoorsThatRememberModel", "door", "[I", true)
  | 6 => ("DoorsThatRememberModel", "draught", "[I", true)
  | 7 => ("DoorsThatRememberModel", "lodgers", "[I", true)
  | 8 => ("DoorsThatRememberModel", "lodger", "[I", true)
  | 9 => ("DoorsThatRememberModel", "first", "[I", true)
  | 10 => ("DoorsThatRememberModel", "slot", "[I", true)
  | 11 => ("DoorsThatRememberModel", "kept", "I", false)
  | 12 => ("DoorsThatRememberModel", "done", "I", false)
  | 13 => ("DoorsThatRememberModel", "was", "[I", true)
  | 14 => ("DoorsThatRememberModel", "far", "[I", true)
  | 15 => ("DoorsThatRememberModel", "row", "[I", true)
  | 16 => ("DoorsThatRememberModel", "best", "[I", true)
  | 17 => ("DoorsThatRememberModel", "least", "I", false)
  | _ => ("DoorsThatRememberModel", "got", "[I", true)
def tyX7 : Nat → FieldType := fun k => match k with
  | 0 => .int
  | 1 => .array .byte
  | 2 => .int
  | 3 => .array .int
  | 4 => .array .int
  | 5 => .array .int
  | 6 => .array .int
  | 7 => .array .int
  | 8 => .array .int
  | 9 => .array .int
  | 10 => .array .int
  | 11 => .int
  | 12 => .int
  | 13 => .array .int
  | 14 => .array .int
  | 15 => .array .int
  | 16 => .array .int
  | 17 => .int
  | _ => .array .int
abbrev wsX70 : List Cond := u_ws RX7 TX7 19
theorem nmX7 : ∀ a, a < 19 → ∀ b, b < 19 → a ≠ b → (TX7 a).2.1 ≠ (TX7 b).2.1 := by decide +kernel
theorem tyX7_ok : ∀ k, k < 19 → parseFieldDescriptor (TX7 k).2.2.1 = some (tyX7 k) := by decide +kernel
abbrev cX7_init : ByteArray := prog_9_method_1_code
def yX7_init : MethodName := ⟨RX7, "<init>", "()V"⟩
abbrev cX7_in : ByteArray := prog_9_method_2_code
def yX7_in : MethodName := ⟨RX7, "in", "(JJJ)Z"⟩
abbrev cX7_write : ByteArray := prog_9_method_3_code
def yX7_write : MethodName := ⟨RX7, "write", "(IJ)I"⟩
abbrev cX7_wipe : ByteArray := prog_9_method_4_code
def yX7_wipe : MethodName := ⟨RX7, "wipe", "()I"⟩
abbrev cX7_number : ByteArray := prog_9_method_5_code
def yX7_number : MethodName := ⟨RX7, "number", "()I"⟩
abbrev cX7_numbers : ByteArray := prog_9_method_6_code
def yX7_numbers : MethodName := ⟨RX7, "numbers", "(I)I"⟩
abbrev cX7_isItem : ByteArray := prog_9_method_7_code
def yX7_isItem : MethodName := ⟨RX7, "isItem", "()Z"⟩
abbrev cX7_isGood : ByteArray := prog_9_method_8_code
def yX7_isGood : MethodName := ⟨RX7, "isGood", "(I)Z"⟩
abbrev cX7_isDoorPut : ByteArray := prog_9_method_9_code
def yX7_isDoorPut : MethodName := ⟨RX7, "isDoorPut", "()Z"⟩
abbrev cX7_isLodgerPut : ByteArray := prog_9_method_10_code
def yX7_isLodgerPut : MethodName := ⟨RX7, "isLodgerPut", "()Z"⟩
abbrev cX7_begins : ByteArray := prog_9_method_11_code
def yX7_begins : MethodName := ⟨RX7, "begins", "()V"⟩
abbrev cX7_takes : ByteArray := prog_9_method_12_code
def yX7_takes : MethodName := ⟨RX7, "takes", "()V"⟩
abbrev cX7_fault : ByteArray := prog_9_method_13_code
def yX7_fault : MethodName := ⟨RX7, "fault", "()I"⟩
abbrev cX7_isWhole : ByteArray := prog_9_method_14_code
def yX7_isWhole : MethodName := ⟨RX7, "isWhole", "()Z"⟩
abbrev cX7_lay : ByteArray := prog_9_method_15_code
def yX7_lay : MethodName := ⟨RX7, "lay", "()I"⟩
abbrev cX7_isDoor : ByteArray := prog_9_method_16_code
def yX7_isDoor : MethodName := ⟨RX7, "isDoor", "(I)Z"⟩
abbrev cX7_isLodger : ByteArray := prog_9_method_17_code
def yX7_isLodger : MethodName := ⟨RX7, "isLodger", "(I)Z"⟩
abbrev cX7_isRoom : ByteArray := prog_9_method_18_code
def yX7_isRoom : MethodName := ⟨RX7, "isRoom", "(I)Z"⟩
abbrev cX7_door : ByteArray := prog_9_method_19_code
def yX7_door : MethodName := ⟨RX7, "door", "(II)I"⟩
abbrev cX7_lodger : ByteArray := prog_9_method_20_code
def yX7_lodger : MethodName := ⟨RX7, "lodger", "(II)I"⟩
abbrev cX7_grudge : ByteArray := prog_9_method_21_code
def yX7_grudge : MethodName := ⟨RX7, "grudge", "(II)I"⟩
abbrev cX7_copies : ByteArray := prog_9_method_22_code
def yX7_copies : MethodName := ⟨RX7, "copies", "(II)V"⟩
abbrev cX7_known : ByteArray := prog_9_method_23_code
def yX7_known : MethodName := ⟨RX7, "known", "()V"⟩
abbrev cX7_costs : ByteArray := prog_9_method_24_code
def yX7_costs : MethodName := ⟨RX7, "costs", "(III)I"⟩
abbrev cX7_isOf : ByteArray := prog_9_method_25_code
def yX7_isOf : MethodName := ⟨RX7, "isOf", "(II)Z"⟩
abbrev cX7_over : ByteArray := prog_9_method_26_code
def yX7_over : MethodName := ⟨RX7, "over", "(II)I"⟩
abbrev cX7_becomes : ByteArray := prog_9_method_27_code
def yX7_becomes : MethodName := ⟨RX7, "becomes", "(IIZ)I"⟩
abbrev cX7_goes : ByteArray := prog_9_method_28_code
def yX7_goes : MethodName := ⟨RX7, "goes", "(IIIZ)I"⟩
abbrev cX7_go : ByteArray := prog_9_method_29_code
def yX7_go : MethodName := ⟨RX7, "go", "(IIZ)I"⟩
abbrev cX7_oil : ByteArray := prog_9_method_30_code
def yX7_oil : MethodName := ⟨RX7, "oil", "(I)I"⟩
abbrev cX7_nights : ByteArray := prog_9_method_31_code
def yX7_nights : MethodName := ⟨RX7, "nights", "(I)V"⟩
abbrev cX7_night : ByteArray := prog_9_method_32_code
def yX7_night : MethodName := ⟨RX7, "night", "(I)I"⟩
abbrev cX7_undo : ByteArray := prog_9_method_33_code
def yX7_undo : MethodName := ⟨RX7, "undo", "()I"⟩
abbrev cX7_ways : ByteArray := prog_9_method_34_code
def yX7_ways : MethodName := ⟨RX7, "ways", "(IIII)V"⟩
abbrev cX7_wayOf : ByteArray := prog_9_method_35_code
def yX7_wayOf : MethodName := ⟨RX7, "wayOf", "(IIII)I"⟩
abbrev cX7_way : ByteArray := prog_9_method_36_code
def yX7_way : MethodName := ⟨RX7, "way", "(III)I"⟩
abbrev cX7_firstOf : ByteArray := prog_9_method_37_code
def yX7_firstOf : MethodName := ⟨RX7, "firstOf", "(IIII)I"⟩
abbrev cX7_first : ByteArray := prog_9_method_38_code
def yX7_first : MethodName := ⟨RX7, "first", "(III)I"⟩
abbrev cX7_many : ByteArray := prog_9_method_39_code
def yX7_many : MethodName := ⟨RX7, "many", "(I)I"⟩
abbrev cX7_inTime : ByteArray := prog_9_method_40_code
def yX7_inTime : MethodName := ⟨RX7, "inTime", "(II)I"⟩
abbrev cX7_rooms : ByteArray := prog_9_method_41_code
def yX7_rooms : MethodName := ⟨RX7, "rooms", "(I)I"⟩
abbrev cX7_tries : ByteArray := prog_9_method_42_code
def yX7_tries : MethodName := ⟨RX7, "tries", "()V"⟩
abbrev cX7_behinds : ByteArray := prog_9_method_43_code
def yX7_behinds : MethodName := ⟨RX7, "behinds", "(II)V"⟩
abbrev cX7_isBehind : ByteArray := prog_9_method_44_code
def yX7_isBehind : MethodName := ⟨RX7, "isBehind", "(I)Z"⟩
abbrev cX7_behind : ByteArray := prog_9_method_45_code
def yX7_behind : MethodName := ⟨RX7, "behind", "(III)I"⟩
abbrev cX7_worst : ByteArray := prog_9_method_46_code
def yX7_worst : MethodName := ⟨RX7, "worst", "(II)I"⟩
abbrev cX7_stop : ByteArray := prog_9_method_47_code
def yX7_stop : MethodName := ⟨RX7, "stop", "(IIII)I"⟩
abbrev cX7_how : ByteArray := prog_9_method_48_code
def yX7_how : MethodName := ⟨RX7, "how", "(IIIII)I"⟩
abbrev cX7_news : ByteArray := prog_9_method_49_code
def yX7_news : MethodName := ⟨RX7, "news", "(I)I"⟩
abbrev cX7_fresh : ByteArray := prog_9_method_50_code
def yX7_fresh : MethodName := ⟨RX7, "fresh", "(I)I"⟩
abbrev cX7_walks : ByteArray := prog_9_method_51_code
def yX7_walks : MethodName := ⟨RX7, "walks", "(IIZ)V"⟩
abbrev cX7_week : ByteArray := prog_9_method_52_code
def yX7_week : MethodName := ⟨RX7, "week", "(III)I"⟩
abbrev cX7_keep : ByteArray := prog_9_method_53_code
def yX7_keep : MethodName := ⟨RX7, "keep", "()I"⟩
abbrev cX7_back : ByteArray := prog_9_method_54_code
def yX7_back : MethodName := ⟨RX7, "back", "()I"⟩
abbrev cX7_count : ByteArray := prog_9_method_55_code
def yX7_count : MethodName := ⟨RX7, "count", "(I)I"⟩
def RJ6 : String := "java/lang/Integer"
def TJ6 : u_T := fun k => match k with
  | _ => ("", "", "", false)
def tyJ6 : Nat → FieldType := fun k => match k with
  | _ => .int
abbrev wsJ60 : List Cond := u_ws RJ6 TJ6 0
theorem nmJ6 : ∀ a, a < 0 → ∀ b, b < 0 → a ≠ b → (TJ6 a).2.1 ≠ (TJ6 b).2.1 := by decide +kernel
theorem tyJ6_ok : ∀ k, k < 0 → parseFieldDescriptor (TJ6 k).2.2.1 = some (tyJ6 k) := by decide +kernel
abbrev cJ6_bitCount_0f7a4 : ByteArray := prog_10_method_49_code
def yJ6_bitCount_0f7a4 : MethodName := ⟨RJ6, "bitCount", "(I)I"⟩
def RJ9 : String := "java/lang/Math"
def TJ9 : u_T := fun k => match k with
  | _ => ("", "", "", false)
def tyJ9 : Nat → FieldType := fun k => match k with
  | _ => .int
abbrev wsJ90 : List Cond := u_ws RJ9 TJ9 0
theorem nmJ9 : ∀ a, a < 0 → ∀ b, b < 0 → a ≠ b → (TJ9 a).2.1 ≠ (TJ9 b).2.1 := by decide +kernel
theorem tyJ9_ok : ∀ k, k < 0 → parseFieldDescriptor (TJ9 k).2.2.1 = some (tyJ9 k) := by decide +kernel
abbrev cJ9_max_7cf53 : ByteArray := prog_11_method_65_code
def yJ9_max_7cf53 : MethodName := ⟨RJ9, "max", "(II)I"⟩
abbrev cJ9_min_7cf53 : ByteArray := prog_11_method_69_code
def yJ9_min_7cf53 : MethodName := ⟨RJ9, "min", "(II)I"⟩
def RL : String := "DoorsThatRememberLaw"
abbrev cL_law : ByteArray := code
def yL_law : MethodName := ⟨RL, "law", "([I)Z"⟩
def wsX0_init : List Cond := .code yX0_init cX0_init 1 none :: ([.methodLink RX0 3 objectInit, .instanceMethod objectInit, .code objectInit ⟨#[0xb1]⟩ 1 none, .arrayClass .int, .fieldLink RX0 9 "DoorsThatRemember$House" "grudges" "[I", .fieldLink RX0 15 "DoorsThatRemember$House" "passing" "[I", .fieldLink RX0 18 "DoorsThatRemember$House" "oilLeft" "[I", .fieldLink RX0 21 "DoorsThatRemember$House" "place" "[I"] ++ wsX00)
def wsX6_copy : List Cond := .code yX6_copy cX6_copy 3 none :: ([])
def wsX6_fill : List Cond := .code yX6_fill cX6_fill 3 none :: ([])
def wsX0_beginAs : List Cond := .code yX0_beginAs cX0_beginAs 2 none :: ([.fieldLink RX0 9 "DoorsThatRemember$House" "grudges" "[I", .fieldLink RX0 21 "DoorsThatRemember$House" "place" "[I", .fieldLink RX0 18 "DoorsThatRemember$House" "oilLeft" "[I", .fieldLink RX0 40 "DoorsThatRemember$House" "minutes" "I", .fieldLink RX0 44 "DoorsThatRemember$House" "nights" "I", .static yX6_copy, .initialized RX6, .code yX6_copy cX6_copy 3 none, .static yX6_fill, .code yX6_fill cX6_fill 3 none] ++ wsX20 ++ wsX00)
def wsX0_become : List Cond := .code yX0_become cX0_become 2 none :: ([.fieldLink RX0 9 "DoorsThatRemember$House" "grudges" "[I", .fieldLink RX0 18 "DoorsThatRemember$House" "oilLeft" "[I", .fieldLink RX0 21 "DoorsThatRemember$House" "place" "[I", .fieldLink RX0 40 "DoorsThatRemember$House" "minutes" "I", .fieldLink RX0 44 "DoorsThatRemember$House" "nights" "I", .static yX6_copy, .initialized RX6, .code yX6_copy cX6_copy 3 none] ++ wsX00)
def wsX6_at : List Cond := .code yX6_at cX6_at 2 (some .int) :: ([])
def wsX0_grudgeOf : List Cond := .code yX0_grudgeOf cX0_grudgeOf 3 (some .int) :: ([.fieldLink RX0 9 "DoorsThatRemember$House" "grudges" "[I", .static yX6_at, .initialized RX6, .code yX6_at cX6_at 2 (some .int)] ++ wsX00)
def wsX6_put : List Cond := .code yX6_put cX6_put 3 none :: ([])
def wsX0_setGrudge : List Cond := .code yX0_setGrudge cX0_setGrudge 4 none :: ([.fieldLink RX0 9 "DoorsThatRemember$House" "grudges" "[I", .static yX6_put, .initialized RX6, .code yX6_put cX6_put 3 none] ++ wsX00)
def wsX0_isOiled : List Cond := .code yX0_isOiled cX0_isOiled 2 (some .boolean) :: ([.fieldLink RX0 18 "DoorsThatRemember$House" "oilLeft" "[I", .static yX6_at, .initialized RX6, .code yX6_at cX6_at 2 (some .int)] ++ wsX00)
def wsX0_oiledDoors : List Cond := .code yX0_oiledDoors cX0_oiledDoors 3 (some .int) :: ([.methodLink RX0 55 yX0_isOiled, .instanceMethod yX0_isOiled, .selects RX0 yX0_isOiled yX0_isOiled, .initialized RX0, .code yX0_isOiled cX0_isOiled 2 (some .boolean), .fieldLink RX0 18 "DoorsThatRemember$House" "oilLeft" "[I", .static yX6_at, .initialized RX6, .code yX6_at cX6_at 2 (some .int)] ++ wsX00)
def wsX0_minutesThrough : List Cond := .code yX0_minutesThrough cX0_minutesThrough 3 (some .int) :: ([.methodLink RX0 55 yX0_isOiled, .instanceMethod yX0_isOiled, .selects RX0 yX0_isOiled yX0_isOiled, .initialized RX0, .code yX0_isOiled cX0_isOiled 2 (some .boolean), .fieldLink RX0 18 "DoorsThatRemember$House" "oilLeft" "[I", .static yX6_at, .initialized RX6, .code yX6_at cX6_at 2 (some .int), .methodLink RX0 59 yX0_grudgeOf, .instanceMethod yX0_grudgeOf, .selects RX0 yX0_grudgeOf yX0_grudgeOf, .code yX0_grudgeOf cX0_grudgeOf 3 (some .int), .fieldLink RX0 9 "DoorsThatRemember$House" "grudges" "[I"] ++ wsX00)
def wsX2_otherSide : List Cond := .code yX2_otherSide cX2_otherSide 3 (some .int) :: ([.fieldLink RX2 9 "DoorsThatRemember$Plan" "sideA" "[I", .fieldLink RX2 15 "DoorsThatRemember$Plan" "sideB" "[I", .static yX6_at, .initialized RX6, .code yX6_at cX6_at 2 (some .int)] ++ wsX20)
def wsX6_grown : List Cond := .code yX6_grown cX6_grown 2 (some .int) :: ([.methodLink RX6 226 Lib.Math.min.name, .static Lib.Math.min.name, .initialized "java/lang/Math", .code Lib.Math.min.name Lib.Math.min.code 2 (some .int)])
def wsX6_worn : List Cond := .code yX6_worn cX6_worn 2 (some .int) :: ([.methodLink RX6 262 Lib.Math.max.name, .static Lib.Math.max.name, .initialized "java/lang/Math", .code Lib.Math.max.name Lib.Math.max.code 2 (some .int)])
def wsX2_grudgeNext : List Cond := .code yX2_grudgeNext cX2_grudgeNext 4 (some .int) :: ([.fieldLink RX2 27 "DoorsThatRemember$Plan" "temper" "[I", .fieldLink RX2 46 "DoorsThatRemember$Plan" "wear" "I", .static yX6_at, .initialized RX6, .code yX6_at cX6_at 2 (some .int), .static yX6_grown, .code yX6_grown cX6_grown 2 (some .int), .methodLink RX6 226 Lib.Math.min.name, .static Lib.Math.min.name, .initialized "java/lang/Math", .code Lib.Math.min.name Lib.Math.min.code 2 (some .int), .static yX6_worn, .code yX6_worn cX6_worn 2 (some .int), .methodLink RX6 262 Lib.Math.max.name, .static Lib.Math.max.name, .code Lib.Math.max.name Lib.Math.max.code 2 (some .int)] ++ wsX20)
def wsX0_passThrough_r1 : List Cond := [Cond.fieldLink RX0 40 "DoorsThatRemember$House" "minutes" "I", Cond.fieldLink RX0 21 "DoorsThatRemember$House" "place" "[I", Cond.methodLink RX0 63 yX0_minutesThrough, Cond.instanceMethod yX0_minutesThrough, Cond.selects RX0 yX0_minutesThrough yX0_minutesThrough, Cond.initialized RX0, Cond.code yX0_minutesThrough cX0_minutesThrough 3 (some .int), Cond.methodLink RX0 55 yX0_isOiled, Cond.instanceMethod yX0_isOiled, Cond.selects RX0 yX0_isOiled yX0_isOiled, Cond.code yX0_isOiled cX0_isOiled 2 (some .boolean), Cond.fieldLink RX0 18 "DoorsThatRemember$House" "oilLeft" "[I", Cond.static yX6_at, Cond.initialized RX6, Cond.code yX6_at cX6_at 2 (some .int), Cond.methodLink RX0 59 yX0_grudgeOf, Cond.instanceMethod yX0_grudgeOf, Cond.selects RX0 yX0_grudgeOf yX0_grudgeOf, Cond.code yX0_grudgeOf cX0_grudgeOf 3 (some .int), Cond.fieldLink RX0 9 "DoorsThatRemember$House" "grudges" "[I", Cond.methodLink RX0 66 yX2_otherSide, Cond.instanceMethod yX2_otherSide, Cond.selects RX2 yX2_otherSide yX2_otherSide, Cond.initialized RX2]
def wsX0_passThrough_r2 : List Cond := [Cond.code yX2_otherSide cX2_otherSide 3 (some .int), Cond.fieldLink RX2 9 "DoorsThatRemember$Plan" "sideA" "[I", Cond.fieldLink RX2 15 "DoorsThatRemember$Plan" "sideB" "[I", Cond.static yX6_put, Cond.code yX6_put cX6_put 3 none, Cond.methodLink RX0 69 yX2_grudgeNext, Cond.instanceMethod yX2_grudgeNext, Cond.selects RX2 yX2_grudgeNext yX2_grudgeNext, Cond.code yX2_grudgeNext cX2_grudgeNext 4 (some .int), Cond.fieldLink RX2 27 "DoorsThatRemember$Plan" "temper" "[I", Cond.fieldLink RX2 46 "DoorsThatRemember$Plan" "wear" "I", Cond.static yX6_grown, Cond.code yX6_grown cX6_grown 2 (some .int), Cond.methodLink RX6 226 Lib.Math.min.name, Cond.static Lib.Math.min.name, Cond.initialized "java/lang/Math", Cond.code Lib.Math.min.name Lib.Math.min.code 2 (some .int), Cond.static yX6_worn, Cond.code yX6_worn cX6_worn 2 (some .int), Cond.methodLink RX6 262 Lib.Math.max.name, Cond.static Lib.Math.max.name, Cond.code Lib.Math.max.name Lib.Math.max.code 2 (some .int), Cond.methodLink RX0 73 yX0_setGrudge, Cond.instanceMethod yX0_setGrudge]
def wsX0_passThrough_r3 : List Cond := [Cond.selects RX0 yX0_setGrudge yX0_setGrudge, Cond.code yX0_setGrudge cX0_setGrudge 4 none]
def wsX0_passThrough : List Cond := .code yX0_passThrough cX0_passThrough 6 (some .int) :: ((wsX0_passThrough_r1 ++ (wsX0_passThrough_r2 ++ wsX0_passThrough_r3)) ++ wsX00 ++ wsX20)
def wsX0_passOn_r1 : List Cond := [Cond.fieldLink RX0 15 "DoorsThatRemember$House" "passing" "[I", Cond.static yX6_fill, Cond.initialized RX6, Cond.code yX6_fill cX6_fill 3 none, Cond.static yX6_at, Cond.code yX6_at cX6_at 2 (some .int), Cond.methodLink RX0 55 yX0_isOiled, Cond.instanceMethod yX0_isOiled, Cond.selects RX0 yX0_isOiled yX0_isOiled, Cond.initialized RX0, Cond.code yX0_isOiled cX0_isOiled 2 (some .boolean), Cond.fieldLink RX0 18 "DoorsThatRemember$House" "oilLeft" "[I", Cond.methodLink RX0 59 yX0_grudgeOf, Cond.instanceMethod yX0_grudgeOf, Cond.selects RX0 yX0_grudgeOf yX0_grudgeOf, Cond.code yX0_grudgeOf cX0_grudgeOf 3 (some .int), Cond.fieldLink RX0 9 "DoorsThatRemember$House" "grudges" "[I", Cond.static yX6_put, Cond.code yX6_put cX6_put 3 none, Cond.static yX6_worn, Cond.code yX6_worn cX6_worn 2 (some .int), Cond.methodLink RX6 262 Lib.Math.max.name, Cond.static Lib.Math.max.name, Cond.initialized "java/lang/Math"]
def wsX0_passOn_r2 : List Cond := [Cond.code Lib.Math.max.name Lib.Math.max.code 2 (some .int), Cond.static yX6_grown, Cond.code yX6_grown cX6_grown 2 (some .int), Cond.methodLink RX6 226 Lib.Math.min.name, Cond.static Lib.Math.min.name, Cond.code Lib.Math.min.name Lib.Math.min.code 2 (some .int), Cond.methodLink RX0 73 yX0_setGrudge, Cond.instanceMethod yX0_setGrudge, Cond.selects RX0 yX0_setGrudge yX0_setGrudge, Cond.code yX0_setGrudge cX0_setGrudge 4 none]
def wsX0_passOn : List Cond := .code yX0_passOn cX0_passOn 6 none :: ((wsX0_passOn_r1 ++ wsX0_passOn_r2) ++ wsX00 ++ wsX20)
def wsX0_dryOil : List Cond := .code yX0_dryOil cX0_dryOil 2 none :: ([.fieldLink RX0 18 "DoorsThatRemember$House" "oilLeft" "[I", .methodLink RX0 108 Lib.Math.max.name, .static Lib.Math.max.name, .initialized "java/lang/Math", .code Lib.Math.max.name Lib.Math.max.code 2 (some .int), .static yX6_at, .initialized RX6, .code yX6_at cX6_at 2 (some .int), .static yX6_put, .code yX6_put cX6_put 3 none] ++ wsX00)
def wsX0_sleep_r1 : List Cond := [Cond.fieldLink RX0 44 "DoorsThatRemember$House" "nights" "I", Cond.methodLink RX0 80 yX0_passOn, Cond.instanceMethod yX0_passOn, Cond.selects RX0 yX0_passOn yX0_passOn, Cond.initialized RX0, Cond.code yX0_passOn cX0_passOn 6 none, Cond.fieldLink RX0 15 "DoorsThatRemember$House" "passing" "[I", Cond.static yX6_fill, Cond.initialized RX6, Cond.code yX6_fill cX6_fill 3 none, Cond.static yX6_at, Cond.code yX6_at cX6_at 2 (some .int), Cond.methodLink RX0 55 yX0_isOiled, Cond.instanceMethod yX0_isOiled, Cond.selects RX0 yX0_isOiled yX0_isOiled, Cond.code yX0_isOiled cX0_isOiled 2 (some .boolean), Cond.fieldLink RX0 18 "DoorsThatRemember$House" "oilLeft" "[I", Cond.methodLink RX0 59 yX0_grudgeOf, Cond.instanceMethod yX0_grudgeOf, Cond.selects RX0 yX0_grudgeOf yX0_grudgeOf, Cond.code yX0_grudgeOf cX0_grudgeOf 3 (some .int), Cond.fieldLink RX0 9 "DoorsThatRemember$House" "grudges" "[I", Cond.static yX6_put, Cond.code yX6_put cX6_put 3 none]
def wsX0_sleep_r2 : List Cond := [Cond.static yX6_worn, Cond.code yX6_worn cX6_worn 2 (some .int), Cond.methodLink RX6 262 Lib.Math.max.name, Cond.static Lib.Math.max.name, Cond.initialized "java/lang/Math", Cond.code Lib.Math.max.name Lib.Math.max.code 2 (some .int), Cond.static yX6_grown, Cond.code yX6_grown cX6_grown 2 (some .int), Cond.methodLink RX6 226 Lib.Math.min.name, Cond.static Lib.Math.min.name, Cond.code Lib.Math.min.name Lib.Math.min.code 2 (some .int), Cond.methodLink RX0 73 yX0_setGrudge, Cond.instanceMethod yX0_setGrudge, Cond.selects RX0 yX0_setGrudge yX0_setGrudge, Cond.code yX0_setGrudge cX0_setGrudge 4 none, Cond.methodLink RX0 84 yX0_dryOil, Cond.instanceMethod yX0_dryOil, Cond.selects RX0 yX0_dryOil yX0_dryOil, Cond.code yX0_dryOil cX0_dryOil 2 none, Cond.methodLink RX0 108 Lib.Math.max.name]
def wsX0_sleep : List Cond := .code yX0_sleep cX0_sleep 3 none :: ((wsX0_sleep_r1 ++ wsX0_sleep_r2) ++ wsX20 ++ wsX00)
def wsX0_sleepAgainstOne_r1 : List Cond := [Cond.methodLink RX0 80 yX0_passOn, Cond.instanceMethod yX0_passOn, Cond.selects RX0 yX0_passOn yX0_passOn, Cond.initialized RX0, Cond.code yX0_passOn cX0_passOn 6 none, Cond.fieldLink RX0 15 "DoorsThatRemember$House" "passing" "[I", Cond.static yX6_fill, Cond.initialized RX6, Cond.code yX6_fill cX6_fill 3 none, Cond.static yX6_at, Cond.code yX6_at cX6_at 2 (some .int), Cond.methodLink RX0 55 yX0_isOiled, Cond.instanceMethod yX0_isOiled, Cond.selects RX0 yX0_isOiled yX0_isOiled, Cond.code yX0_isOiled cX0_isOiled 2 (some .boolean), Cond.fieldLink RX0 18 "DoorsThatRemember$House" "oilLeft" "[I", Cond.methodLink RX0 59 yX0_grudgeOf, Cond.instanceMethod yX0_grudgeOf, Cond.selects RX0 yX0_grudgeOf yX0_grudgeOf, Cond.code yX0_grudgeOf cX0_grudgeOf 3 (some .int), Cond.fieldLink RX0 9 "DoorsThatRemember$House" "grudges" "[I", Cond.static yX6_put, Cond.code yX6_put cX6_put 3 none, Cond.static yX6_worn]
def wsX0_sleepAgainstOne_r2 : List Cond := [Cond.code yX6_worn cX6_worn 2 (some .int), Cond.methodLink RX6 262 Lib.Math.max.name, Cond.static Lib.Math.max.name, Cond.initialized "java/lang/Math", Cond.code Lib.Math.max.name Lib.Math.max.code 2 (some .int), Cond.static yX6_grown, Cond.code yX6_grown cX6_grown 2 (some .int), Cond.methodLink RX6 226 Lib.Math.min.name, Cond.static Lib.Math.min.name, Cond.code Lib.Math.min.name Lib.Math.min.code 2 (some .int), Cond.methodLink RX0 73 yX0_setGrudge, Cond.instanceMethod yX0_setGrudge, Cond.selects RX0 yX0_setGrudge yX0_setGrudge, Cond.code yX0_setGrudge cX0_setGrudge 4 none, Cond.methodLink RX0 84 yX0_dryOil, Cond.instanceMethod yX0_dryOil, Cond.selects RX0 yX0_dryOil yX0_dryOil, Cond.code yX0_dryOil cX0_dryOil 2 none, Cond.methodLink RX0 108 Lib.Math.max.name]
def wsX0_sleepAgainstOne : List Cond := .code yX0_sleepAgainstOne cX0_sleepAgainstOne 5 none :: ((wsX0_sleepAgainstOne_r1 ++ wsX0_sleepAgainstOne_r2) ++ wsX00 ++ wsX20)
def wsX0_grudgesOfDoor : List Cond := .code yX0_grudgesOfDoor cX0_grudgesOfDoor 5 (some .int) :: ([.methodLink RX0 59 yX0_grudgeOf, .instanceMethod yX0_grudgeOf, .selects RX0 yX0_grudgeOf yX0_grudgeOf, .initialized RX0, .code yX0_grudgeOf cX0_grudgeOf 3 (some .int), .fieldLink RX0 9 "DoorsThatRemember$House" "grudges" "[I", .static yX6_at, .initialized RX6, .code yX6_at cX6_at 2 (some .int)] ++ wsX20 ++ wsX00)
def wsX0_allGrudges : List Cond := .code yX0_allGrudges cX0_allGrudges 4 (some .int) :: ([.methodLink RX0 113 yX0_grudgesOfDoor, .instanceMethod yX0_grudgesOfDoor, .selects RX0 yX0_grudgesOfDoor yX0_grudgesOfDoor, .initialized RX0, .code yX0_grudgesOfDoor cX0_grudgesOfDoor 5 (some .int), .methodLink RX0 59 yX0_grudgeOf, .instanceMethod yX0_grudgeOf, .selects RX0 yX0_grudgeOf yX0_grudgeOf, .code yX0_grudgeOf cX0_grudgeOf 3 (some .int), .fieldLink RX0 9 "DoorsThatRemember$House" "grudges" "[I", .static yX6_at, .initialized RX6, .code yX6_at cX6_at 2 (some .int)] ++ wsX20 ++ wsX00)
def wsX1_init : List Cond := .code yX1_init cX1_init 3 none :: ([.methodLink RX1 1 objectInit, .instanceMethod objectInit, .code objectInit ⟨#[0xb1]⟩ 1 none, .methodLink RX1 7 Lib.Math.max.name, .static Lib.Math.max.name, .initialized "java/lang/Math", .code Lib.Math.max.name Lib.Math.max.code 2 (some .int), .classLink RX1 13 RX0, .fieldLink RX1 15 "DoorsThatRemember$Past" "slots" "[LDoorsThatRemember$House;", .instantiable RX0 6, .initialized RX0, .instanceMethod yX0_init, .code yX0_init cX0_init 1 none, .methodLink RX0 3 objectInit, .arrayClass .int, .fieldLink RX0 9 "DoorsThatRemember$House" "grudges" "[I", .fieldLink RX0 15 "DoorsThatRemember$House" "passing" "[I", .fieldLink RX0 18 "DoorsThatRemember$House" "oilLeft" "[I", .fieldLink RX0 21 "DoorsThatRemember$House" "place" "[I"] ++ wsX10 ++ wsX00)
def wsX1_forgetAll : List Cond := .code yX1_forgetAll cX1_forgetAll 1 none :: ([.fieldLink RX1 22 "DoorsThatRemember$Past" "size" "I"] ++ wsX10)
def wsX1_dropOldest : List Cond := .code yX1_dropOldest cX1_dropOldest 3 none :: ([.fieldLink RX1 15 "DoorsThatRemember$Past" "slots" "[LDoorsThatRemember$House;", .fieldLink RX1 22 "DoorsThatRemember$Past" "size" "I"] ++ wsX10)
def wsX1_slotAt : List Cond := .code yX1_slotAt cX1_slotAt 2 (some (.object "DoorsThatRemember$House")) :: ([.fieldLink RX1 15 "DoorsThatRemember$Past" "slots" "[LDoorsThatRemember$House;"] ++ wsX10)
def wsX1_push : List Cond := .code yX1_push cX1_push 3 none :: ([.fieldLink RX1 22 "DoorsThatRemember$Past" "size" "I", .fieldLink RX1 15 "DoorsThatRemember$Past" "slots" "[LDoorsThatRemember$House;", .methodLink RX1 26 yX1_dropOldest, .instanceMethod yX1_dropOldest, .selects RX1 yX1_dropOldest yX1_dropOldest, .initialized RX1, .code yX1_dropOldest cX1_dropOldest 3 none, .methodLink RX1 29 yX1_slotAt, .instanceMethod yX1_slotAt, .selects RX1 yX1_slotAt yX1_slotAt, .code yX1_slotAt cX1_slotAt 2 (some (.object "DoorsThatRemember$House")), .methodLink RX1 33 yX0_become, .instanceMethod yX0_become, .selects RX0 yX0_become yX0_become, .initialized RX0, .code yX0_become cX0_become 2 none, .fieldLink RX0 9 "DoorsThatRemember$House" "grudges" "[I", .fieldLink RX0 18 "DoorsThatRemember$House" "oilLeft" "[I", .fieldLink RX0 21 "DoorsThatRemember$House" "place" "[I", .fieldLink RX0 40 "DoorsThatRemember$House" "minutes" "I", .fieldLink RX0 44 "DoorsThatRemember$House" "nights" "I", .static yX6_copy, .initialized RX6, .code yX6_copy cX6_copy 3 none] ++ wsX10 ++ wsX00)
def wsX1_pop : List Cond := .code yX1_pop cX1_pop 3 (some .boolean) :: ([.fieldLink RX1 22 "DoorsThatRemember$Past" "size" "I", .methodLink RX1 29 yX1_slotAt, .instanceMethod yX1_slotAt, .selects RX1 yX1_slotAt yX1_slotAt, .initialized RX1, .code yX1_slotAt cX1_slotAt 2 (some (.object "DoorsThatRemember$House")), .fieldLink RX1 15 "DoorsThatRemember$Past" "slots" "[LDoorsThatRemember$House;", .methodLink RX1 33 yX0_become, .instanceMethod yX0_become, .selects RX0 yX0_become yX0_become, .initialized RX0, .code yX0_become cX0_become 2 none, .fieldLink RX0 9 "DoorsThatRemember$House" "grudges" "[I", .fieldLink RX0 18 "DoorsThatRemember$House" "oilLeft" "[I", .fieldLink RX0 21 "DoorsThatRemember$House" "place" "[I", .fieldLink RX0 40 "DoorsThatRemember$House" "minutes" "I", .fieldLink RX0 44 "DoorsThatRemember$House" "nights" "I", .static yX6_copy, .initialized RX6, .code yX6_copy cX6_copy 3 none] ++ wsX10 ++ wsX00)
def wsX2_init : List Cond := .code yX2_init cX2_init 1 none :: ([.methodLink RX2 3 objectInit, .instanceMethod objectInit, .code objectInit ⟨#[0xb1]⟩ 1 none, .arrayClass .int, .fieldLink RX2 9 "DoorsThatRemember$Plan" "sideA" "[I", .fieldLink RX2 15 "DoorsThatRemember$Plan" "sideB" "[I", .fieldLink RX2 18 "DoorsThatRemember$Plan" "passTo" "[I", .fieldLink RX2 21 "DoorsThatRemember$Plan" "draught" "[I", .fieldLink RX2 24 "DoorsThatRemember$Plan" "home" "[I", .fieldLink RX2 27 "DoorsThatRemember$Plan" "temper" "[I", .fieldLink RX2 30 "DoorsThatRemember$Plan" "goal" "[I", .fieldLink RX2 33 "DoorsThatRemember$Plan" "firstGrudges" "[I", .fieldLink RX2 36 "DoorsThatRemember$Plan" "roomCount" "I", .fieldLink RX2 40 "DoorsThatRemember$Plan" "tenths" "I", .fieldLink RX2 43 "DoorsThatRemember$Plan" "fade" "I", .fieldLink RX2 46 "DoorsThatRemember$Plan" "wear" "I", .fieldLink RX2 49 "DoorsThatRemember$Plan" "oilLasts" "I"] ++ wsX20)
def wsX2_clear : List Cond := .code yX2_clear cX2_clear 1 none :: ([.fieldLink RX2 21 "DoorsThatRemember$Plan" "draught" "[I", .fieldLink RX2 33 "DoorsThatRemember$Plan" "firstGrudges" "[I", .fieldLink RX2 36 "DoorsThatRemember$Plan" "roomCount" "I", .fieldLink RX2 56 "DoorsThatRemember$Plan" "doorCount" "I", .fieldLink RX2 59 "DoorsThatRemember$Plan" "lodgerCount" "I", .fieldLink RX2 40 "DoorsThatRemember$Plan" "tenths" "I", .fieldLink RX2 43 "DoorsThatRemember$Plan" "fade" "I", .fieldLink RX2 46 "DoorsThatRemember$Plan" "wear" "I", .fieldLink RX2 49 "DoorsThatRemember$Plan" "oilLasts" "I", .static yX6_fill, .initialized RX6, .code yX6_fill cX6_fill 3 none] ++ wsX20)
def wsX2_addDoor : List Cond := .code yX2_addDoor cX2_addDoor 4 none :: ([.fieldLink RX2 9 "DoorsThatRemember$Plan" "sideA" "[I", .fieldLink RX2 56 "DoorsThatRemember$Plan" "doorCount" "I", .fieldLink RX2 15 "DoorsThatRemember$Plan" "sideB" "[I", .fieldLink RX2 18 "DoorsThatRemember$Plan" "passTo" "[I", .static yX6_put, .initialized RX6, .code yX6_put cX6_put 3 none] ++ wsX20)
def wsX2_addLodger : List Cond := .code yX2_addLodger cX2_addLodger 4 none :: ([.fieldLink RX2 24 "DoorsThatRemember$Plan" "home" "[I", .fieldLink RX2 59 "DoorsThatRemember$Plan" "lodgerCount" "I", .fieldLink RX2 27 "DoorsThatRemember$Plan" "temper" "[I", .fieldLink RX2 30 "DoorsThatRemember$Plan" "goal" "[I", .static yX6_put, .initialized RX6, .code yX6_put cX6_put 3 none] ++ wsX20)
def wsX6_within : List Cond := .code yX6_within cX6_within 3 (some .boolean) :: ([])
def wsX2_takeRooms : List Cond := .code yX2_takeRooms cX2_takeRooms 2 (some .boolean) :: ([.fieldLink RX2 56 "DoorsThatRemember$Plan" "doorCount" "I", .fieldLink RX2 36 "DoorsThatRemember$Plan" "roomCount" "I", .static yX6_within, .initialized RX6, .code yX6_within cX6_within 3 (some .boolean)] ++ wsX20)
def wsX2_takeDoor : List Cond := .code yX2_takeDoor cX2_takeDoor 5 (some .boolean) :: ([.fieldLink RX2 36 "DoorsThatRemember$Plan" "roomCount" "I", .fieldLink RX2 56 "DoorsThatRemember$Plan" "doorCount" "I", .methodLink RX2 100 yX2_addDoor, .instanceMethod yX2_addDoor, .selects RX2 yX2_addDoor yX2_addDoor, .initialized RX2, .code yX2_addDoor cX2_addDoor 4 none, .fieldLink RX2 9 "DoorsThatRemember$Plan" "sideA" "[I", .fieldLink RX2 15 "DoorsThatRemember$Plan" "sideB" "[I", .fieldLink RX2 18 "DoorsThatRemember$Plan" "passTo" "[I", .static yX6_put, .initialized RX6, .code yX6_put cX6_put 3 none] ++ wsX20)
def wsX2_takeLodger : List Cond := .code yX2_takeLodger cX2_takeLodger 5 (some .boolean) :: ([.fieldLink RX2 59 "DoorsThatRemember$Plan" "lodgerCount" "I", .static yX6_within, .initialized RX6, .code yX6_within cX6_within 3 (some .boolean), .methodLink RX2 104 yX2_addLodger, .instanceMethod yX2_addLodger, .selects RX2 yX2_addLodger yX2_addLodger, .initialized RX2, .code yX2_addLodger cX2_addLodger 4 none, .fieldLink RX2 24 "DoorsThatRemember$Plan" "home" "[I", .fieldLink RX2 27 "DoorsThatRemember$Plan" "temper" "[I", .fieldLink RX2 30 "DoorsThatRemember$Plan" "goal" "[I", .static yX6_put, .code yX6_put cX6_put 3 none] ++ wsX20)
def wsX2_takeGrudge : List Cond := .code yX2_takeGrudge cX2_takeGrudge 4 (some .boolean) :: ([.fieldLink RX2 56 "DoorsThatRemember$Plan" "doorCount" "I", .fieldLink RX2 59 "DoorsThatRemember$Plan" "lodgerCount" "I", .fieldLink RX2 33 "DoorsThatRemember$Plan" "firstGrudges" "[I", .static yX6_put, .initialized RX6, .code yX6_put cX6_put 3 none] ++ wsX20)
def wsX2_takePassing : List Cond := .code yX2_takePassing cX2_takePassing 3 (some .boolean) :: ([.fieldLink RX2 40 "DoorsThatRemember$Plan" "tenths" "I", .fieldLink RX2 43 "DoorsThatRemember$Plan" "fade" "I"] ++ wsX20)
def wsX2_takeWear : List Cond := .code yX2_takeWear cX2_takeWear 2 (some .boolean) :: ([.fieldLink RX2 46 "DoorsThatRemember$Plan" "wear" "I"] ++ wsX20)
def wsX2_takeOil : List Cond := .code yX2_takeOil cX2_takeOil 2 (some .boolean) :: ([.fieldLink RX2 49 "DoorsThatRemember$Plan" "oilLasts" "I", .static yX6_within, .initialized RX6, .code yX6_within cX6_within 3 (some .boolean)] ++ wsX20)
def wsX2_takeDraught : List Cond := .code yX2_takeDraught cX2_takeDraught 3 (some .boolean) :: ([.fieldLink RX2 56 "DoorsThatRemember$Plan" "doorCount" "I", .fieldLink RX2 21 "DoorsThatRemember$Plan" "draught" "[I", .static yX6_put, .initialized RX6, .code yX6_put cX6_put 3 none] ++ wsX20)
def wsX2_take_r1 : List Cond := [Cond.static yX6_at, Cond.initialized RX6, Cond.code yX6_at cX6_at 2 (some .int), Cond.methodLink RX2 70 yX2_takeRooms, Cond.instanceMethod yX2_takeRooms, Cond.selects RX2 yX2_takeRooms yX2_takeRooms, Cond.initialized RX2, Cond.code yX2_takeRooms cX2_takeRooms 2 (some .boolean), Cond.fieldLink RX2 56 "DoorsThatRemember$Plan" "doorCount" "I", Cond.fieldLink RX2 36 "DoorsThatRemember$Plan" "roomCount" "I", Cond.static yX6_within, Cond.code yX6_within cX6_within 3 (some .boolean), Cond.methodLink RX2 74 yX2_takeDoor, Cond.instanceMethod yX2_takeDoor, Cond.selects RX2 yX2_takeDoor yX2_takeDoor, Cond.code yX2_takeDoor cX2_takeDoor 5 (some .boolean), Cond.methodLink RX2 100 yX2_addDoor, Cond.instanceMethod yX2_addDoor, Cond.selects RX2 yX2_addDoor yX2_addDoor, Cond.code yX2_addDoor cX2_addDoor 4 none, Cond.fieldLink RX2 9 "DoorsThatRemember$Plan" "sideA" "[I", Cond.fieldLink RX2 15 "DoorsThatRemember$Plan" "sideB" "[I", Cond.fieldLink RX2 18 "DoorsThatRemember$Plan" "passTo" "[I", Cond.static yX6_put]
def wsX2_take_r2 : List Cond := [Cond.code yX6_put cX6_put 3 none, Cond.methodLink RX2 78 yX2_takeLodger, Cond.instanceMethod yX2_takeLodger, Cond.selects RX2 yX2_takeLodger yX2_takeLodger, Cond.code yX2_takeLodger cX2_takeLodger 5 (some .boolean), Cond.fieldLink RX2 59 "DoorsThatRemember$Plan" "lodgerCount" "I", Cond.methodLink RX2 104 yX2_addLodger, Cond.instanceMethod yX2_addLodger, Cond.selects RX2 yX2_addLodger yX2_addLodger, Cond.code yX2_addLodger cX2_addLodger 4 none, Cond.fieldLink RX2 24 "DoorsThatRemember$Plan" "home" "[I", Cond.fieldLink RX2 27 "DoorsThatRemember$Plan" "temper" "[I", Cond.fieldLink RX2 30 "DoorsThatRemember$Plan" "goal" "[I", Cond.methodLink RX2 81 yX2_takeGrudge, Cond.instanceMethod yX2_takeGrudge, Cond.selects RX2 yX2_takeGrudge yX2_takeGrudge, Cond.code yX2_takeGrudge cX2_takeGrudge 4 (some .boolean), Cond.fieldLink RX2 33 "DoorsThatRemember$Plan" "firstGrudges" "[I", Cond.methodLink RX2 84 yX2_takePassing, Cond.instanceMethod yX2_takePassing, Cond.selects RX2 yX2_takePassing yX2_takePassing, Cond.code yX2_takePassing cX2_takePassing 3 (some .boolean), Cond.fieldLink RX2 40 "DoorsThatRemember$Plan" "tenths" "I", Cond.fieldLink RX2 43 "DoorsThatRemember$Plan" "fade" "I"]
def wsX2_take_r3 : List Cond := [Cond.methodLink RX2 88 yX2_takeWear, Cond.instanceMethod yX2_takeWear, Cond.selects RX2 yX2_takeWear yX2_takeWear, Cond.code yX2_takeWear cX2_takeWear 2 (some .boolean), Cond.fieldLink RX2 46 "DoorsThatRemember$Plan" "wear" "I", Cond.methodLink RX2 91 yX2_takeOil, Cond.instanceMethod yX2_takeOil, Cond.selects RX2 yX2_takeOil yX2_takeOil, Cond.code yX2_takeOil cX2_takeOil 2 (some .boolean), Cond.fieldLink RX2 49 "DoorsThatRemember$Plan" "oilLasts" "I", Cond.methodLink RX2 94 yX2_takeDraught, Cond.instanceMethod yX2_takeDraught, Cond.selects RX2 yX2_takeDraught yX2_takeDraught, Cond.code yX2_takeDraught cX2_takeDraught 3 (some .boolean), Cond.fieldLink RX2 21 "DoorsThatRemember$Plan" "draught" "[I"]
def wsX2_take : List Cond := .code yX2_take cX2_take 7 (some .boolean) :: ((wsX2_take_r1 ++ (wsX2_take_r2 ++ wsX2_take_r3)) ++ wsX20)
def wsX2_canStand : List Cond := .code yX2_canStand cX2_canStand 2 (some .boolean) :: ([.fieldLink RX2 56 "DoorsThatRemember$Plan" "doorCount" "I", .fieldLink RX2 18 "DoorsThatRemember$Plan" "passTo" "[I", .fieldLink RX2 59 "DoorsThatRemember$Plan" "lodgerCount" "I", .fieldLink RX2 24 "DoorsThatRemember$Plan" "home" "[I", .fieldLink RX2 36 "DoorsThatRemember$Plan" "roomCount" "I", .fieldLink RX2 30 "DoorsThatRemember$Plan" "goal" "[I", .static yX6_at, .initialized RX6, .code yX6_at cX6_at 2 (some .int)] ++ wsX20)
def wsX6_holds : List Cond := .code yX6_holds cX6_holds 2 (some .boolean) :: ([])
def wsX2_grudgeAfter : List Cond := .code yX2_grudgeAfter cX2_grudgeAfter 7 (some .int) :: ([.fieldLink RX2 33 "DoorsThatRemember$Plan" "firstGrudges" "[I", .static yX6_at, .initialized RX6, .code yX6_at cX6_at 2 (some .int), .static yX6_holds, .code yX6_holds cX6_holds 2 (some .boolean), .methodLink RX2 117 yX2_grudgeNext, .instanceMethod yX2_grudgeNext, .selects RX2 yX2_grudgeNext yX2_grudgeNext, .initialized RX2, .code yX2_grudgeNext cX2_grudgeNext 4 (some .int), .fieldLink RX2 27 "DoorsThatRemember$Plan" "temper" "[I", .fieldLink RX2 46 "DoorsThatRemember$Plan" "wear" "I", .static yX6_grown, .code yX6_grown cX6_grown 2 (some .int), .methodLink RX6 226 Lib.Math.min.name, .static Lib.Math.min.name, .initialized "java/lang/Math", .code Lib.Math.min.name Lib.Math.min.code 2 (some .int), .static yX6_worn, .code yX6_worn cX6_worn 2 (some .int), .methodLink RX6 262 Lib.Math.max.name, .static Lib.Math.max.name, .code Lib.Math.max.name Lib.Math.max.code 2 (some .int)] ++ wsX20)
def wsX3_init : List Cond := .code yX3_init cX3_init 1 none :: ([.methodLink RX3 3 objectInit, .instanceMethod objectInit, .code objectInit ⟨#[0xb1]⟩ 1 none, .arrayClass .int, .fieldLink RX3 9 "DoorsThatRemember$Rooming" "loss" "[I"] ++ wsX30)
def wsX5_shorten : List Cond := .code yX5_shorten cX5_shorten 8 (some .boolean) :: ([.fieldLink RX5 9 "DoorsThatRemember$Ways" "least" "[I", .fieldLink RX5 15 "DoorsThatRemember$Ways" "price" "[I", .static yX6_at, .initialized RX6, .code yX6_at cX6_at 2 (some .int), .static yX6_put, .code yX6_put cX6_put 3 none] ++ wsX20 ++ wsX50)
def wsX5_measure_r1 : List Cond := [Cond.fieldLink RX5 15 "DoorsThatRemember$Ways" "price" "[I", Cond.fieldLink RX5 9 "DoorsThatRemember$Ways" "least" "[I", Cond.constant RX5 38 (1000000), Cond.static yX6_holds, Cond.initialized RX6, Cond.code yX6_holds cX6_holds 2 (some .boolean), Cond.methodLink RX5 28 yX0_minutesThrough, Cond.instanceMethod yX0_minutesThrough, Cond.selects RX0 yX0_minutesThrough yX0_minutesThrough, Cond.initialized RX0, Cond.code yX0_minutesThrough cX0_minutesThrough 3 (some .int), Cond.methodLink RX0 55 yX0_isOiled, Cond.instanceMethod yX0_isOiled, Cond.selects RX0 yX0_isOiled yX0_isOiled, Cond.code yX0_isOiled cX0_isOiled 2 (some .boolean), Cond.fieldLink RX0 18 "DoorsThatRemember$House" "oilLeft" "[I", Cond.static yX6_at, Cond.code yX6_at cX6_at 2 (some .int), Cond.methodLink RX0 59 yX0_grudgeOf, Cond.instanceMethod yX0_grudgeOf, Cond.selects RX0 yX0_grudgeOf yX0_grudgeOf, Cond.code yX0_grudgeOf cX0_grudgeOf 3 (some .int), Cond.fieldLink RX0 9 "DoorsThatRemember$House" "grudges" "[I", Cond.static yX6_put]
def wsX5_measure_r2 : List Cond := [Cond.code yX6_put cX6_put 3 none, Cond.static yX6_fill, Cond.code yX6_fill cX6_fill 3 none, Cond.methodLink RX5 46 yX5_shorten, Cond.instanceMethod yX5_shorten, Cond.selects RX5 yX5_shorten yX5_shorten, Cond.initialized RX5, Cond.code yX5_shorten cX5_shorten 8 (some .boolean)]
def wsX5_measure : List Cond := .code yX5_measure cX5_measure 8 none :: ((wsX5_measure_r1 ++ wsX5_measure_r2) ++ wsX20 ++ wsX50 ++ wsX00)
def wsX5_minutesFrom : List Cond := .code yX5_minutesFrom cX5_minutesFrom 2 (some .int) :: ([.fieldLink RX5 9 "DoorsThatRemember$Ways" "least" "[I", .constant RX5 38 (1000000), .static yX6_at, .initialized RX6, .code yX6_at cX6_at 2 (some .int)] ++ wsX50)
def wsX3_measure_r1 : List Cond := [Cond.fieldLink RX3 21 "DoorsThatRemember$Rooming" "lodgerCount" "I", Cond.fieldLink RX3 25 "DoorsThatRemember$Rooming" "roomCount" "I", Cond.fieldLink RX3 9 "DoorsThatRemember$Rooming" "loss" "[I", Cond.static yX6_at, Cond.initialized RX6, Cond.code yX6_at cX6_at 2 (some .int), Cond.methodLink RX3 33 yX5_measure, Cond.instanceMethod yX5_measure, Cond.selects RX5 yX5_measure yX5_measure, Cond.initialized RX5, Cond.code yX5_measure cX5_measure 8 none, Cond.fieldLink RX5 15 "DoorsThatRemember$Ways" "price" "[I", Cond.fieldLink RX5 9 "DoorsThatRemember$Ways" "least" "[I", Cond.constant RX5 38 (1000000), Cond.static yX6_holds, Cond.code yX6_holds cX6_holds 2 (some .boolean), Cond.methodLink RX5 28 yX0_minutesThrough, Cond.instanceMethod yX0_minutesThrough, Cond.selects RX0 yX0_minutesThrough yX0_minutesThrough, Cond.initialized RX0, Cond.code yX0_minutesThrough cX0_minutesThrough 3 (some .int), Cond.methodLink RX0 55 yX0_isOiled, Cond.instanceMethod yX0_isOiled, Cond.selects RX0 yX0_isOiled yX0_isOiled]
def wsX3_measure_r2 : List Cond := [Cond.code yX0_isOiled cX0_isOiled 2 (some .boolean), Cond.fieldLink RX0 18 "DoorsThatRemember$House" "oilLeft" "[I", Cond.methodLink RX0 59 yX0_grudgeOf, Cond.instanceMethod yX0_grudgeOf, Cond.selects RX0 yX0_grudgeOf yX0_grudgeOf, Cond.code yX0_grudgeOf cX0_grudgeOf 3 (some .int), Cond.fieldLink RX0 9 "DoorsThatRemember$House" "grudges" "[I", Cond.static yX6_put, Cond.code yX6_put cX6_put 3 none, Cond.static yX6_fill, Cond.code yX6_fill cX6_fill 3 none, Cond.methodLink RX5 46 yX5_shorten, Cond.instanceMethod yX5_shorten, Cond.selects RX5 yX5_shorten yX5_shorten, Cond.code yX5_shorten cX5_shorten 8 (some .boolean), Cond.methodLink RX3 39 yX5_minutesFrom, Cond.instanceMethod yX5_minutesFrom, Cond.selects RX5 yX5_minutesFrom yX5_minutesFrom, Cond.code yX5_minutesFrom cX5_minutesFrom 2 (some .int)]
def wsX3_measure : List Cond := .code yX3_measure cX3_measure 6 none :: ((wsX3_measure_r1 ++ wsX3_measure_r2) ++ wsX20 ++ wsX30 ++ wsX50 ++ wsX00)
def wsX3_sumOf : List Cond := .code yX3_sumOf cX3_sumOf 8 (some .int) :: ([.fieldLink RX3 21 "DoorsThatRemember$Rooming" "lodgerCount" "I", .fieldLink RX3 9 "DoorsThatRemember$Rooming" "loss" "[I", .fieldLink RX3 25 "DoorsThatRemember$Rooming" "roomCount" "I", .static yX6_at, .initialized RX6, .code yX6_at cX6_at 2 (some .int), .static yX6_holds, .code yX6_holds cX6_holds 2 (some .boolean)] ++ wsX30)
def wsX3_bestCode : List Cond := .code yX3_bestCode cX3_bestCode 6 (some .int) :: ([.fieldLink RX3 21 "DoorsThatRemember$Rooming" "lodgerCount" "I", .constant RX3 47 (1000000), .methodLink RX3 48 yX3_sumOf, .instanceMethod yX3_sumOf, .selects RX3 yX3_sumOf yX3_sumOf, .initialized RX3, .code yX3_sumOf cX3_sumOf 8 (some .int), .fieldLink RX3 9 "DoorsThatRemember$Rooming" "loss" "[I", .fieldLink RX3 25 "DoorsThatRemember$Rooming" "roomCount" "I", .static yX6_at, .initialized RX6, .code yX6_at cX6_at 2 (some .int), .static yX6_holds, .code yX6_holds cX6_holds 2 (some .boolean)] ++ wsX30)
def wsX3_roomIn : List Cond := .code yX3_roomIn cX3_roomIn 5 (some .int) :: ([.fieldLink RX3 21 "DoorsThatRemember$Rooming" "lodgerCount" "I"] ++ wsX30)
def wsX4_init : List Cond := .code yX4_init cX4_init 1 none :: ([.methodLink RX4 3 objectInit, .instanceMethod objectInit, .code objectInit ⟨#[0xb1]⟩ 1 none, .arrayClass .int, .fieldLink RX4 9 "DoorsThatRemember$Text" "bytes" "[I", .fieldLink RX4 15 "DoorsThatRemember$Text" "numbers" "[I"] ++ wsX40)
def wsX4_append : List Cond := .code yX4_append cX4_append 2 none :: ([.fieldLink RX4 18 "DoorsThatRemember$Text" "length" "I", .fieldLink RX4 9 "DoorsThatRemember$Text" "bytes" "[I", .static yX6_put, .initialized RX6, .code yX6_put cX6_put 3 none] ++ wsX40)
def wsX4_byteAt : List Cond := .code yX4_byteAt cX4_byteAt 2 (some .int) :: ([.fieldLink RX4 18 "DoorsThatRemember$Text" "length" "I", .fieldLink RX4 9 "DoorsThatRemember$Text" "bytes" "[I", .static yX6_at, .initialized RX6, .code yX6_at cX6_at 2 (some .int)] ++ wsX40)
def wsX4_isFigure : List Cond := .code yX4_isFigure cX4_isFigure 2 (some .boolean) :: ([.methodLink RX4 35 yX4_byteAt, .instanceMethod yX4_byteAt, .selects RX4 yX4_byteAt yX4_byteAt, .initialized RX4, .code yX4_byteAt cX4_byteAt 2 (some .int), .fieldLink RX4 18 "DoorsThatRemember$Text" "length" "I", .fieldLink RX4 9 "DoorsThatRemember$Text" "bytes" "[I", .static yX6_at, .initialized RX6, .code yX6_at cX6_at 2 (some .int), .static yX6_within, .code yX6_within cX6_within 3 (some .boolean)] ++ wsX40)
def wsX4_figuresAt : List Cond := .code yX4_figuresAt cX4_figuresAt 2 (some .int) :: ([.methodLink RX4 52 yX4_isFigure, .instanceMethod yX4_isFigure, .selects RX4 yX4_isFigure yX4_isFigure, .initialized RX4, .code yX4_isFigure cX4_isFigure 2 (some .boolean), .methodLink RX4 35 yX4_byteAt, .instanceMethod yX4_byteAt, .selects RX4 yX4_byteAt yX4_byteAt, .code yX4_byteAt cX4_byteAt 2 (some .int), .fieldLink RX4 18 "DoorsThatRemember$Text" "length" "I", .fieldLink RX4 9 "DoorsThatRemember$Text" "bytes" "[I", .static yX6_at, .initialized RX6, .code yX6_at cX6_at 2 (some .int), .static yX6_within, .code yX6_within cX6_within 3 (some .boolean)] ++ wsX40)
def wsX4_numberAt : List Cond := .code yX4_numberAt cX4_numberAt 4 (some .int) :: ([.methodLink RX4 35 yX4_byteAt, .instanceMethod yX4_byteAt, .selects RX4 yX4_byteAt yX4_byteAt, .initialized RX4, .code yX4_byteAt cX4_byteAt 2 (some .int), .fieldLink RX4 18 "DoorsThatRemember$Text" "length" "I", .fieldLink RX4 9 "DoorsThatRemember$Text" "bytes" "[I", .static yX6_at, .initialized RX6, .code yX6_at cX6_at 2 (some .int)] ++ wsX40)
def wsX4_scanItem_r1 : List Cond := [Cond.fieldLink RX4 15 "DoorsThatRemember$Text" "numbers" "[I", Cond.fieldLink RX4 38 "DoorsThatRemember$Text" "told" "I", Cond.methodLink RX4 45 yX4_figuresAt, Cond.instanceMethod yX4_figuresAt, Cond.selects RX4 yX4_figuresAt yX4_figuresAt, Cond.initialized RX4, Cond.code yX4_figuresAt cX4_figuresAt 2 (some .int), Cond.methodLink RX4 52 yX4_isFigure, Cond.instanceMethod yX4_isFigure, Cond.selects RX4 yX4_isFigure yX4_isFigure, Cond.code yX4_isFigure cX4_isFigure 2 (some .boolean), Cond.methodLink RX4 35 yX4_byteAt, Cond.instanceMethod yX4_byteAt, Cond.selects RX4 yX4_byteAt yX4_byteAt, Cond.code yX4_byteAt cX4_byteAt 2 (some .int), Cond.fieldLink RX4 18 "DoorsThatRemember$Text" "length" "I", Cond.fieldLink RX4 9 "DoorsThatRemember$Text" "bytes" "[I", Cond.static yX6_at, Cond.initialized RX6, Cond.code yX6_at cX6_at 2 (some .int), Cond.static yX6_within, Cond.code yX6_within cX6_within 3 (some .boolean), Cond.methodLink RX4 48 yX4_numberAt, Cond.instanceMethod yX4_numberAt]
def wsX4_scanItem_r2 : List Cond := [Cond.selects RX4 yX4_numberAt yX4_numberAt, Cond.code yX4_numberAt cX4_numberAt 4 (some .int), Cond.static yX6_put, Cond.code yX6_put cX6_put 3 none]
def wsX4_scanItem : List Cond := .code yX4_scanItem cX4_scanItem 6 (some .int) :: ((wsX4_scanItem_r1 ++ wsX4_scanItem_r2) ++ wsX40)
def wsX4_readInto_r1 : List Cond := [Cond.fieldLink RX4 18 "DoorsThatRemember$Text" "length" "I", Cond.fieldLink RX4 38 "DoorsThatRemember$Text" "told" "I", Cond.fieldLink RX4 15 "DoorsThatRemember$Text" "numbers" "[I", Cond.methodLink RX4 26 yX2_clear, Cond.instanceMethod yX2_clear, Cond.selects RX2 yX2_clear yX2_clear, Cond.initialized RX2, Cond.code yX2_clear cX2_clear 1 none, Cond.fieldLink RX2 21 "DoorsThatRemember$Plan" "draught" "[I", Cond.fieldLink RX2 33 "DoorsThatRemember$Plan" "firstGrudges" "[I", Cond.fieldLink RX2 36 "DoorsThatRemember$Plan" "roomCount" "I", Cond.fieldLink RX2 56 "DoorsThatRemember$Plan" "doorCount" "I", Cond.fieldLink RX2 59 "DoorsThatRemember$Plan" "lodgerCount" "I", Cond.fieldLink RX2 40 "DoorsThatRemember$Plan" "tenths" "I", Cond.fieldLink RX2 43 "DoorsThatRemember$Plan" "fade" "I", Cond.fieldLink RX2 46 "DoorsThatRemember$Plan" "wear" "I", Cond.fieldLink RX2 49 "DoorsThatRemember$Plan" "oilLasts" "I", Cond.static yX6_fill, Cond.initialized RX6, Cond.code yX6_fill cX6_fill 3 none, Cond.methodLink RX4 31 yX4_scanItem, Cond.instanceMethod yX4_scanItem, Cond.selects RX4 yX4_scanItem yX4_scanItem, Cond.initialized RX4]
def wsX4_readInto_r2 : List Cond := [Cond.code yX4_scanItem cX4_scanItem 6 (some .int), Cond.methodLink RX4 45 yX4_figuresAt, Cond.instanceMethod yX4_figuresAt, Cond.selects RX4 yX4_figuresAt yX4_figuresAt, Cond.code yX4_figuresAt cX4_figuresAt 2 (some .int), Cond.methodLink RX4 52 yX4_isFigure, Cond.instanceMethod yX4_isFigure, Cond.selects RX4 yX4_isFigure yX4_isFigure, Cond.code yX4_isFigure cX4_isFigure 2 (some .boolean), Cond.methodLink RX4 35 yX4_byteAt, Cond.instanceMethod yX4_byteAt, Cond.selects RX4 yX4_byteAt yX4_byteAt, Cond.code yX4_byteAt cX4_byteAt 2 (some .int), Cond.fieldLink RX4 9 "DoorsThatRemember$Text" "bytes" "[I", Cond.static yX6_at, Cond.code yX6_at cX6_at 2 (some .int), Cond.static yX6_within, Cond.code yX6_within cX6_within 3 (some .boolean), Cond.methodLink RX4 48 yX4_numberAt, Cond.instanceMethod yX4_numberAt, Cond.selects RX4 yX4_numberAt yX4_numberAt, Cond.code yX4_numberAt cX4_numberAt 4 (some .int), Cond.static yX6_put, Cond.code yX6_put cX6_put 3 none]
def wsX4_readInto_r3 : List Cond := [Cond.methodLink RX4 41 yX2_take, Cond.instanceMethod yX2_take, Cond.selects RX2 yX2_take yX2_take, Cond.code yX2_take cX2_take 7 (some .boolean), Cond.methodLink RX2 70 yX2_takeRooms, Cond.instanceMethod yX2_takeRooms, Cond.selects RX2 yX2_takeRooms yX2_takeRooms, Cond.code yX2_takeRooms cX2_takeRooms 2 (some .boolean), Cond.methodLink RX2 74 yX2_takeDoor, Cond.instanceMethod yX2_takeDoor, Cond.selects RX2 yX2_takeDoor yX2_takeDoor, Cond.code yX2_takeDoor cX2_takeDoor 5 (some .boolean), Cond.methodLink RX2 100 yX2_addDoor, Cond.instanceMethod yX2_addDoor, Cond.selects RX2 yX2_addDoor yX2_addDoor, Cond.code yX2_addDoor cX2_addDoor 4 none, Cond.fieldLink RX2 9 "DoorsThatRemember$Plan" "sideA" "[I", Cond.fieldLink RX2 15 "DoorsThatRemember$Plan" "sideB" "[I", Cond.fieldLink RX2 18 "DoorsThatRemember$Plan" "passTo" "[I", Cond.methodLink RX2 78 yX2_takeLodger, Cond.instanceMethod yX2_takeLodger, Cond.selects RX2 yX2_takeLodger yX2_takeLodger, Cond.code yX2_takeLodger cX2_takeLodger 5 (some .boolean), Cond.methodLink RX2 104 yX2_addLodger]
def wsX4_readInto_r4 : List Cond := [Cond.instanceMethod yX2_addLodger, Cond.selects RX2 yX2_addLodger yX2_addLodger, Cond.code yX2_addLodger cX2_addLodger 4 none, Cond.fieldLink RX2 24 "DoorsThatRemember$Plan" "home" "[I", Cond.fieldLink RX2 27 "DoorsThatRemember$Plan" "temper" "[I", Cond.fieldLink RX2 30 "DoorsThatRemember$Plan" "goal" "[I", Cond.methodLink RX2 81 yX2_takeGrudge, Cond.instanceMethod yX2_takeGrudge, Cond.selects RX2 yX2_takeGrudge yX2_takeGrudge, Cond.code yX2_takeGrudge cX2_takeGrudge 4 (some .boolean), Cond.methodLink RX2 84 yX2_takePassing, Cond.instanceMethod yX2_takePassing, Cond.selects RX2 yX2_takePassing yX2_takePassing, Cond.code yX2_takePassing cX2_takePassing 3 (some .boolean), Cond.methodLink RX2 88 yX2_takeWear, Cond.instanceMethod yX2_takeWear, Cond.selects RX2 yX2_takeWear yX2_takeWear, Cond.code yX2_takeWear cX2_takeWear 2 (some .boolean), Cond.methodLink RX2 91 yX2_takeOil, Cond.instanceMethod yX2_takeOil, Cond.selects RX2 yX2_takeOil yX2_takeOil, Cond.code yX2_takeOil cX2_takeOil 2 (some .boolean), Cond.methodLink RX2 94 yX2_takeDraught, Cond.instanceMethod yX2_takeDraught]
def wsX4_readInto_r5 : List Cond := [Cond.selects RX2 yX2_takeDraught yX2_takeDraught, Cond.code yX2_takeDraught cX2_takeDraught 3 (some .boolean)]
def wsX4_readInto : List Cond := .code yX4_readInto cX4_readInto 5 (some .int) :: ((wsX4_readInto_r1 ++ (wsX4_readInto_r2 ++ (wsX4_readInto_r3 ++ (wsX4_readInto_r4 ++ wsX4_readInto_r5)))) ++ wsX40 ++ wsX20)
def wsX5_init : List Cond := .code yX5_init cX5_init 1 none :: ([.methodLink RX5 3 objectInit, .instanceMethod objectInit, .code objectInit ⟨#[0xb1]⟩ 1 none, .arrayClass .int, .fieldLink RX5 9 "DoorsThatRemember$Ways" "least" "[I", .fieldLink RX5 15 "DoorsThatRemember$Ways" "price" "[I"] ++ wsX50)
def wsX5_lowestDoorFrom : List Cond := .code yX5_lowestDoorFrom cX5_lowestDoorFrom 5 (some .int) :: ([.fieldLink RX5 15 "DoorsThatRemember$Ways" "price" "[I", .fieldLink RX5 9 "DoorsThatRemember$Ways" "least" "[I", .methodLink RX5 60 yX5_minutesFrom, .instanceMethod yX5_minutesFrom, .selects RX5 yX5_minutesFrom yX5_minutesFrom, .initialized RX5, .code yX5_minutesFrom cX5_minutesFrom 2 (some .int), .constant RX5 38 (1000000), .static yX6_at, .initialized RX6, .code yX6_at cX6_at 2 (some .int), .methodLink RX5 64 yX2_otherSide, .instanceMethod yX2_otherSide, .selects RX2 yX2_otherSide yX2_otherSide, .initialized RX2, .code yX2_otherSide cX2_otherSide 3 (some .int), .fieldLink RX2 9 "DoorsThatRemember$Plan" "sideA" "[I", .fieldLink RX2 15 "DoorsThatRemember$Plan" "sideB" "[I"] ++ wsX20 ++ wsX50)
def wsX6_init_r1 : List Cond := [Cond.methodLink RX6 1 objectInit, Cond.instanceMethod objectInit, Cond.code objectInit ⟨#[0xb1]⟩ 1 none, Cond.classLink RX6 7 RX4, Cond.instantiable RX4 4, Cond.initialized RX4, Cond.fieldLink RX6 10 "DoorsThatRemember" "text" "LDoorsThatRemember$Text;", Cond.classLink RX6 16 RX0, Cond.instantiable RX0 6, Cond.initialized RX0, Cond.fieldLink RX6 19 "DoorsThatRemember" "now" "LDoorsThatRemember$House;", Cond.fieldLink RX6 23 "DoorsThatRemember" "trial" "LDoorsThatRemember$House;", Cond.classLink RX6 26 RX1, Cond.instantiable RX1 2, Cond.initialized RX1, Cond.fieldLink RX6 31 "DoorsThatRemember" "undone" "LDoorsThatRemember$Past;", Cond.fieldLink RX6 35 "DoorsThatRemember" "kept" "LDoorsThatRemember$Past;", Cond.classLink RX6 38 RX5, Cond.instantiable RX5 2, Cond.initialized RX5, Cond.fieldLink RX6 41 "DoorsThatRemember" "ways" "LDoorsThatRemember$Ways;", Cond.classLink RX6 45 RX3, Cond.instantiable RX3 3, Cond.initialized RX3]
def wsX6_init_r2 : List Cond := [Cond.fieldLink RX6 48 "DoorsThatRemember" "rooming" "LDoorsThatRemember$Rooming;", Cond.classLink RX6 52 RX2, Cond.instantiable RX2 15, Cond.initialized RX2, Cond.fieldLink RX6 55 "DoorsThatRemember" "plan" "LDoorsThatRemember$Plan;", Cond.fieldLink RX6 59 "DoorsThatRemember" "draft" "LDoorsThatRemember$Plan;", Cond.instanceMethod yX4_init, Cond.code yX4_init cX4_init 1 none, Cond.methodLink RX4 3 objectInit, Cond.arrayClass .int, Cond.fieldLink RX4 9 "DoorsThatRemember$Text" "bytes" "[I", Cond.fieldLink RX4 15 "DoorsThatRemember$Text" "numbers" "[I", Cond.instanceMethod yX0_init, Cond.code yX0_init cX0_init 1 none, Cond.methodLink RX0 3 objectInit, Cond.fieldLink RX0 9 "DoorsThatRemember$House" "grudges" "[I", Cond.fieldLink RX0 15 "DoorsThatRemember$House" "passing" "[I", Cond.fieldLink RX0 18 "DoorsThatRemember$House" "oilLeft" "[I", Cond.fieldLink RX0 21 "DoorsThatRemember$House" "place" "[I", Cond.methodLink RX6 28 yX1_init, Cond.instanceMethod yX1_init, Cond.code yX1_init cX1_init 3 none, Cond.methodLink RX1 1 objectInit, Cond.methodLink RX1 7 Lib.Math.max.name]
def wsX6_init_r3 : List Cond := [Cond.static Lib.Math.max.name, Cond.initialized "java/lang/Math", Cond.code Lib.Math.max.name Lib.Math.max.code 2 (some .int), Cond.classLink RX1 13 RX0, Cond.fieldLink RX1 15 "DoorsThatRemember$Past" "slots" "[LDoorsThatRemember$House;", Cond.instanceMethod yX5_init, Cond.code yX5_init cX5_init 1 none, Cond.methodLink RX5 3 objectInit, Cond.fieldLink RX5 9 "DoorsThatRemember$Ways" "least" "[I", Cond.fieldLink RX5 15 "DoorsThatRemember$Ways" "price" "[I", Cond.instanceMethod yX3_init, Cond.code yX3_init cX3_init 1 none, Cond.methodLink RX3 3 objectInit, Cond.fieldLink RX3 9 "DoorsThatRemember$Rooming" "loss" "[I", Cond.instanceMethod yX2_init, Cond.code yX2_init cX2_init 1 none, Cond.methodLink RX2 3 objectInit, Cond.fieldLink RX2 9 "DoorsThatRemember$Plan" "sideA" "[I", Cond.fieldLink RX2 15 "DoorsThatRemember$Plan" "sideB" "[I", Cond.fieldLink RX2 18 "DoorsThatRemember$Plan" "passTo" "[I", Cond.fieldLink RX2 21 "DoorsThatRemember$Plan" "draught" "[I", Cond.fieldLink RX2 24 "DoorsThatRemember$Plan" "home" "[I", Cond.fieldLink RX2 27 "DoorsThatRemember$Plan" "temper" "[I", Cond.fieldLink RX2 30 "DoorsThatRemember$Plan" "goal" "[I"]
def wsX6_init_r4 : List Cond := [Cond.fieldLink RX2 33 "DoorsThatRemember$Plan" "firstGrudges" "[I", Cond.fieldLink RX2 36 "DoorsThatRemember$Plan" "roomCount" "I", Cond.fieldLink RX2 40 "DoorsThatRemember$Plan" "tenths" "I", Cond.fieldLink RX2 43 "DoorsThatRemember$Plan" "fade" "I", Cond.fieldLink RX2 46 "DoorsThatRemember$Plan" "wear" "I", Cond.fieldLink RX2 49 "DoorsThatRemember$Plan" "oilLasts" "I", Cond.methodLink RX6 62 yX2_addDoor, Cond.instanceMethod yX2_addDoor, Cond.selects RX2 yX2_addDoor yX2_addDoor, Cond.code yX2_addDoor cX2_addDoor 4 none, Cond.fieldLink RX2 56 "DoorsThatRemember$Plan" "doorCount" "I", Cond.static yX6_put, Cond.initialized RX6, Cond.code yX6_put cX6_put 3 none, Cond.methodLink RX6 66 yX2_addLodger, Cond.instanceMethod yX2_addLodger, Cond.selects RX2 yX2_addLodger yX2_addLodger, Cond.code yX2_addLodger cX2_addLodger 4 none, Cond.fieldLink RX2 59 "DoorsThatRemember$Plan" "lodgerCount" "I", Cond.methodLink RX6 69 yX0_beginAs, Cond.instanceMethod yX0_beginAs, Cond.selects RX0 yX0_beginAs yX0_beginAs, Cond.code yX0_beginAs cX0_beginAs 2 none, Cond.fieldLink RX0 40 "DoorsThatRemember$House" "minutes" "I"]
def wsX6_init_r5 : List Cond := [Cond.fieldLink RX0 44 "DoorsThatRemember$House" "nights" "I", Cond.static yX6_copy, Cond.code yX6_copy cX6_copy 3 none, Cond.static yX6_fill, Cond.code yX6_fill cX6_fill 3 none]
def wsX6_init : List Cond := .code yX6_init cX6_init 1 none :: ((wsX6_init_r1 ++ (wsX6_init_r2 ++ (wsX6_init_r3 ++ (wsX6_init_r4 ++ wsX6_init_r5)))) ++ wsX40 ++ wsX60 ++ wsX00 ++ wsX10 ++ wsX50 ++ wsX30 ++ wsX20)
def wsX6_write : List Cond := .code yX6_write cX6_write 5 (some .int) :: ([.fieldLink RX6 10 "DoorsThatRemember" "text" "LDoorsThatRemember$Text;", .methodLink RX6 73 yX6_within, .static yX6_within, .initialized RX6, .code yX6_within cX6_within 3 (some .boolean), .methodLink RX6 81 yX4_append, .instanceMethod yX4_append, .selects RX4 yX4_append yX4_append, .initialized RX4, .code yX4_append cX4_append 2 none, .fieldLink RX4 18 "DoorsThatRemember$Text" "length" "I", .fieldLink RX4 9 "DoorsThatRemember$Text" "bytes" "[I", .static yX6_put, .code yX6_put cX6_put 3 none] ++ wsX60 ++ wsX40)
def wsX6_wipe : List Cond := .code yX6_wipe cX6_wipe 2 (some .int) :: ([.fieldLink RX6 10 "DoorsThatRemember" "text" "LDoorsThatRemember$Text;"] ++ wsX60 ++ wsX40)
def wsX6_fault_r1 : List Cond := [Cond.fieldLink RX6 10 "DoorsThatRemember" "text" "LDoorsThatRemember$Text;", Cond.fieldLink RX6 59 "DoorsThatRemember" "draft" "LDoorsThatRemember$Plan;", Cond.methodLink RX6 84 yX4_readInto, Cond.instanceMethod yX4_readInto, Cond.selects RX4 yX4_readInto yX4_readInto, Cond.initialized RX4, Cond.code yX4_readInto cX4_readInto 5 (some .int), Cond.fieldLink RX4 18 "DoorsThatRemember$Text" "length" "I", Cond.fieldLink RX4 38 "DoorsThatRemember$Text" "told" "I", Cond.fieldLink RX4 15 "DoorsThatRemember$Text" "numbers" "[I", Cond.methodLink RX4 26 yX2_clear, Cond.instanceMethod yX2_clear, Cond.selects RX2 yX2_clear yX2_clear, Cond.initialized RX2, Cond.code yX2_clear cX2_clear 1 none, Cond.fieldLink RX2 21 "DoorsThatRemember$Plan" "draught" "[I", Cond.fieldLink RX2 33 "DoorsThatRemember$Plan" "firstGrudges" "[I", Cond.fieldLink RX2 36 "DoorsThatRemember$Plan" "roomCount" "I", Cond.fieldLink RX2 56 "DoorsThatRemember$Plan" "doorCount" "I", Cond.fieldLink RX2 59 "DoorsThatRemember$Plan" "lodgerCount" "I", Cond.fieldLink RX2 40 "DoorsThatRemember$Plan" "tenths" "I", Cond.fieldLink RX2 43 "DoorsThatRemember$Plan" "fade" "I", Cond.fieldLink RX2 46 "DoorsThatRemember$Plan" "wear" "I", Cond.fieldLink RX2 49 "DoorsThatRemember$Plan" "oilLasts" "I"]
def wsX6_fault_r2 : List Cond := [Cond.static yX6_fill, Cond.initialized RX6, Cond.code yX6_fill cX6_fill 3 none, Cond.methodLink RX4 31 yX4_scanItem, Cond.instanceMethod yX4_scanItem, Cond.selects RX4 yX4_scanItem yX4_scanItem, Cond.code yX4_scanItem cX4_scanItem 6 (some .int), Cond.methodLink RX4 45 yX4_figuresAt, Cond.instanceMethod yX4_figuresAt, Cond.selects RX4 yX4_figuresAt yX4_figuresAt, Cond.code yX4_figuresAt cX4_figuresAt 2 (some .int), Cond.methodLink RX4 52 yX4_isFigure, Cond.instanceMethod yX4_isFigure, Cond.selects RX4 yX4_isFigure yX4_isFigure, Cond.code yX4_isFigure cX4_isFigure 2 (some .boolean), Cond.methodLink RX4 35 yX4_byteAt, Cond.instanceMethod yX4_byteAt, Cond.selects RX4 yX4_byteAt yX4_byteAt, Cond.code yX4_byteAt cX4_byteAt 2 (some .int), Cond.fieldLink RX4 9 "DoorsThatRemember$Text" "bytes" "[I", Cond.static yX6_at, Cond.code yX6_at cX6_at 2 (some .int), Cond.static yX6_within, Cond.code yX6_within cX6_within 3 (some .boolean)]
def wsX6_fault_r3 : List Cond := [Cond.methodLink RX4 48 yX4_numberAt, Cond.instanceMethod yX4_numberAt, Cond.selects RX4 yX4_numberAt yX4_numberAt, Cond.code yX4_numberAt cX4_numberAt 4 (some .int), Cond.static yX6_put, Cond.code yX6_put cX6_put 3 none, Cond.methodLink RX4 41 yX2_take, Cond.instanceMethod yX2_take, Cond.selects RX2 yX2_take yX2_take, Cond.code yX2_take cX2_take 7 (some .boolean), Cond.methodLink RX2 70 yX2_takeRooms, Cond.instanceMethod yX2_takeRooms, Cond.selects RX2 yX2_takeRooms yX2_takeRooms, Cond.code yX2_takeRooms cX2_takeRooms 2 (some .boolean), Cond.methodLink RX2 74 yX2_takeDoor, Cond.instanceMethod yX2_takeDoor, Cond.selects RX2 yX2_takeDoor yX2_takeDoor, Cond.code yX2_takeDoor cX2_takeDoor 5 (some .boolean), Cond.methodLink RX2 100 yX2_addDoor, Cond.instanceMethod yX2_addDoor, Cond.selects RX2 yX2_addDoor yX2_addDoor, Cond.code yX2_addDoor cX2_addDoor 4 none, Cond.fieldLink RX2 9 "DoorsThatRemember$Plan" "sideA" "[I", Cond.fieldLink RX2 15 "DoorsThatRemember$Plan" "sideB" "[I"]
def wsX6_fault_r4 : List Cond := [Cond.fieldLink RX2 18 "DoorsThatRemember$Plan" "passTo" "[I", Cond.methodLink RX2 78 yX2_takeLodger, Cond.instanceMethod yX2_takeLodger, Cond.selects RX2 yX2_takeLodger yX2_takeLodger, Cond.code yX2_takeLodger cX2_takeLodger 5 (some .boolean), Cond.methodLink RX2 104 yX2_addLodger, Cond.instanceMethod yX2_addLodger, Cond.selects RX2 yX2_addLodger yX2_addLodger, Cond.code yX2_addLodger cX2_addLodger 4 none, Cond.fieldLink RX2 24 "DoorsThatRemember$Plan" "home" "[I", Cond.fieldLink RX2 27 "DoorsThatRemember$Plan" "temper" "[I", Cond.fieldLink RX2 30 "DoorsThatRemember$Plan" "goal" "[I", Cond.methodLink RX2 81 yX2_takeGrudge, Cond.instanceMethod yX2_takeGrudge, Cond.selects RX2 yX2_takeGrudge yX2_takeGrudge, Cond.code yX2_takeGrudge cX2_takeGrudge 4 (some .boolean), Cond.methodLink RX2 84 yX2_takePassing, Cond.instanceMethod yX2_takePassing, Cond.selects RX2 yX2_takePassing yX2_takePassing, Cond.code yX2_takePassing cX2_takePassing 3 (some .boolean), Cond.methodLink RX2 88 yX2_takeWear, Cond.instanceMethod yX2_takeWear, Cond.selects RX2 yX2_takeWear yX2_takeWear, Cond.code yX2_takeWear cX2_takeWear 2 (some .boolean)]
def wsX6_fault_r5 : List Cond := [Cond.methodLink RX2 91 yX2_takeOil, Cond.instanceMethod yX2_takeOil, Cond.selects RX2 yX2_takeOil yX2_takeOil, Cond.code yX2_takeOil cX2_takeOil 2 (some .boolean), Cond.methodLink RX2 94 yX2_takeDraught, Cond.instanceMethod yX2_takeDraught, Cond.selects RX2 yX2_takeDraught yX2_takeDraught, Cond.code yX2_takeDraught cX2_takeDraught 3 (some .boolean)]
def wsX6_fault : List Cond := .code yX6_fault cX6_fault 1 (some .int) :: ((wsX6_fault_r1 ++ (wsX6_fault_r2 ++ (wsX6_fault_r3 ++ (wsX6_fault_r4 ++ wsX6_fault_r5)))) ++ wsX60 ++ wsX40 ++ wsX20)
def wsX6_lay_r1 : List Cond := [Cond.fieldLink RX6 10 "DoorsThatRemember" "text" "LDoorsThatRemember$Text;", Cond.fieldLink RX6 59 "DoorsThatRemember" "draft" "LDoorsThatRemember$Plan;", Cond.fieldLink RX6 55 "DoorsThatRemember" "plan" "LDoorsThatRemember$Plan;", Cond.fieldLink RX6 19 "DoorsThatRemember" "now" "LDoorsThatRemember$House;", Cond.fieldLink RX6 31 "DoorsThatRemember" "undone" "LDoorsThatRemember$Past;", Cond.fieldLink RX6 35 "DoorsThatRemember" "kept" "LDoorsThatRemember$Past;", Cond.methodLink RX6 84 yX4_readInto, Cond.instanceMethod yX4_readInto, Cond.selects RX4 yX4_readInto yX4_readInto, Cond.initialized RX4, Cond.code yX4_readInto cX4_readInto 5 (some .int), Cond.fieldLink RX4 18 "DoorsThatRemember$Text" "length" "I", Cond.fieldLink RX4 38 "DoorsThatRemember$Text" "told" "I", Cond.fieldLink RX4 15 "DoorsThatRemember$Text" "numbers" "[I", Cond.methodLink RX4 26 yX2_clear, Cond.instanceMethod yX2_clear, Cond.selects RX2 yX2_clear yX2_clear, Cond.initialized RX2, Cond.code yX2_clear cX2_clear 1 none, Cond.fieldLink RX2 21 "DoorsThatRemember$Plan" "draught" "[I", Cond.fieldLink RX2 33 "DoorsThatRemember$Plan" "firstGrudges" "[I", Cond.fieldLink RX2 36 "DoorsThatRemember$Plan" "roomCount" "I", Cond.fieldLink RX2 56 "DoorsThatRemember$Plan" "doorCount" "I", Cond.fieldLink RX2 59 "DoorsThatRemember$Plan" "lodgerCount" "I"]
def wsX6_lay_r2 : List Cond := [Cond.fieldLink RX2 40 "DoorsThatRemember$Plan" "tenths" "I", Cond.fieldLink RX2 43 "DoorsThatRemember$Plan" "fade" "I", Cond.fieldLink RX2 46 "DoorsThatRemember$Plan" "wear" "I", Cond.fieldLink RX2 49 "DoorsThatRemember$Plan" "oilLasts" "I", Cond.static yX6_fill, Cond.initialized RX6, Cond.code yX6_fill cX6_fill 3 none, Cond.methodLink RX4 31 yX4_scanItem, Cond.instanceMethod yX4_scanItem, Cond.selects RX4 yX4_scanItem yX4_scanItem, Cond.code yX4_scanItem cX4_scanItem 6 (some .int), Cond.methodLink RX4 45 yX4_figuresAt, Cond.instanceMethod yX4_figuresAt, Cond.selects RX4 yX4_figuresAt yX4_figuresAt, Cond.code yX4_figuresAt cX4_figuresAt 2 (some .int), Cond.methodLink RX4 52 yX4_isFigure, Cond.instanceMethod yX4_isFigure, Cond.selects RX4 yX4_isFigure yX4_isFigure, Cond.code yX4_isFigure cX4_isFigure 2 (some .boolean), Cond.methodLink RX4 35 yX4_byteAt, Cond.instanceMethod yX4_byteAt, Cond.selects RX4 yX4_byteAt yX4_byteAt, Cond.code yX4_byteAt cX4_byteAt 2 (some .int), Cond.fieldLink RX4 9 "DoorsThatRemember$Text" "bytes" "[I"]
def wsX6_lay_r3 : List Cond := [Cond.static yX6_at, Cond.code yX6_at cX6_at 2 (some .int), Cond.static yX6_within, Cond.code yX6_within cX6_within 3 (some .boolean), Cond.methodLink RX4 48 yX4_numberAt, Cond.instanceMethod yX4_numberAt, Cond.selects RX4 yX4_numberAt yX4_numberAt, Cond.code yX4_numberAt cX4_numberAt 4 (some .int), Cond.static yX6_put, Cond.code yX6_put cX6_put 3 none, Cond.methodLink RX4 41 yX2_take, Cond.instanceMethod yX2_take, Cond.selects RX2 yX2_take yX2_take, Cond.code yX2_take cX2_take 7 (some .boolean), Cond.methodLink RX2 70 yX2_takeRooms, Cond.instanceMethod yX2_takeRooms, Cond.selects RX2 yX2_takeRooms yX2_takeRooms, Cond.code yX2_takeRooms cX2_takeRooms 2 (some .boolean), Cond.methodLink RX2 74 yX2_takeDoor, Cond.instanceMethod yX2_takeDoor, Cond.selects RX2 yX2_takeDoor yX2_takeDoor, Cond.code yX2_takeDoor cX2_takeDoor 5 (some .boolean), Cond.methodLink RX2 100 yX2_addDoor, Cond.instanceMethod yX2_addDoor]
def wsX6_lay_r4 : List Cond := [Cond.selects RX2 yX2_addDoor yX2_addDoor, Cond.code yX2_addDoor cX2_addDoor 4 none, Cond.fieldLink RX2 9 "DoorsThatRemember$Plan" "sideA" "[I", Cond.fieldLink RX2 15 "DoorsThatRemember$Plan" "sideB" "[I", Cond.fieldLink RX2 18 "DoorsThatRemember$Plan" "passTo" "[I", Cond.methodLink RX2 78 yX2_takeLodger, Cond.instanceMethod yX2_takeLodger, Cond.selects RX2 yX2_takeLodger yX2_takeLodger, Cond.code yX2_takeLodger cX2_takeLodger 5 (some .boolean), Cond.methodLink RX2 104 yX2_addLodger, Cond.instanceMethod yX2_addLodger, Cond.selects RX2 yX2_addLodger yX2_addLodger, Cond.code yX2_addLodger cX2_addLodger 4 none, Cond.fieldLink RX2 24 "DoorsThatRemember$Plan" "home" "[I", Cond.fieldLink RX2 27 "DoorsThatRemember$Plan" "temper" "[I", Cond.fieldLink RX2 30 "DoorsThatRemember$Plan" "goal" "[I", Cond.methodLink RX2 81 yX2_takeGrudge, Cond.instanceMethod yX2_takeGrudge, Cond.selects RX2 yX2_takeGrudge yX2_takeGrudge, Cond.code yX2_takeGrudge cX2_takeGrudge 4 (some .boolean), Cond.methodLink RX2 84 yX2_takePassing, Cond.instanceMethod yX2_takePassing, Cond.selects RX2 yX2_takePassing yX2_takePassing, Cond.code yX2_takePassing cX2_takePassing 3 (some .boolean)]
def wsX6_lay_r5 : List Cond := [Cond.methodLink RX2 88 yX2_takeWear, Cond.instanceMethod yX2_takeWear, Cond.selects RX2 yX2_takeWear yX2_takeWear, Cond.code yX2_takeWear cX2_takeWear 2 (some .boolean), Cond.methodLink RX2 91 yX2_takeOil, Cond.instanceMethod yX2_takeOil, Cond.selects RX2 yX2_takeOil yX2_takeOil, Cond.code yX2_takeOil cX2_takeOil 2 (some .boolean), Cond.methodLink RX2 94 yX2_takeDraught, Cond.instanceMethod yX2_takeDraught, Cond.selects RX2 yX2_takeDraught yX2_takeDraught, Cond.code yX2_takeDraught cX2_takeDraught 3 (some .boolean), Cond.methodLink RX6 88 yX2_canStand, Cond.instanceMethod yX2_canStand, Cond.selects RX2 yX2_canStand yX2_canStand, Cond.code yX2_canStand cX2_canStand 2 (some .boolean), Cond.methodLink RX6 69 yX0_beginAs, Cond.instanceMethod yX0_beginAs, Cond.selects RX0 yX0_beginAs yX0_beginAs, Cond.initialized RX0, Cond.code yX0_beginAs cX0_beginAs 2 none, Cond.fieldLink RX0 9 "DoorsThatRemember$House" "grudges" "[I", Cond.fieldLink RX0 21 "DoorsThatRemember$House" "place" "[I", Cond.fieldLink RX0 18 "DoorsThatRemember$House" "oilLeft" "[I"]
def wsX6_lay_r6 : List Cond := [Cond.fieldLink RX0 40 "DoorsThatRemember$House" "minutes" "I", Cond.fieldLink RX0 44 "DoorsThatRemember$House" "nights" "I", Cond.static yX6_copy, Cond.code yX6_copy cX6_copy 3 none, Cond.methodLink RX6 92 yX1_forgetAll, Cond.instanceMethod yX1_forgetAll, Cond.selects RX1 yX1_forgetAll yX1_forgetAll, Cond.initialized RX1, Cond.code yX1_forgetAll cX1_forgetAll 1 none, Cond.fieldLink RX1 22 "DoorsThatRemember$Past" "size" "I"]
def wsX6_lay : List Cond := .code yX6_lay cX6_lay 2 (some .int) :: ((wsX6_lay_r1 ++ (wsX6_lay_r2 ++ (wsX6_lay_r3 ++ (wsX6_lay_r4 ++ (wsX6_lay_r5 ++ wsX6_lay_r6))))) ++ wsX60 ++ wsX20 ++ wsX40 ++ wsX00 ++ wsX10)
def wsX6_isDoor : List Cond := .code yX6_isDoor cX6_isDoor 2 (some .boolean) :: ([.fieldLink RX6 55 "DoorsThatRemember" "plan" "LDoorsThatRemember$Plan;"] ++ wsX60 ++ wsX20)
def wsX6_door : List Cond := .code yX6_door cX6_door 3 (some .int) :: ([.fieldLink RX6 55 "DoorsThatRemember" "plan" "LDoorsThatRemember$Plan;", .fieldLink RX6 19 "DoorsThatRemember" "now" "LDoorsThatRemember$House;", .methodLink RX6 98 yX6_isDoor, .instanceMethod yX6_isDoor, .selects RX6 yX6_isDoor yX6_isDoor, .initialized RX6, .code yX6_isDoor cX6_isDoor 2 (some .boolean), .methodLink RX6 106 yX6_at, .static yX6_at, .code yX6_at cX6_at 2 (some .int)] ++ wsX60 ++ wsX20 ++ wsX00)
def wsX6_isLodger : List Cond := .code yX6_isLodger cX6_isLodger 2 (some .boolean) :: ([.fieldLink RX6 55 "DoorsThatRemember" "plan" "LDoorsThatRemember$Plan;"] ++ wsX60 ++ wsX20)
def wsX6_lodger : List Cond := .code yX6_lodger cX6_lodger 3 (some .int) :: ([.fieldLink RX6 19 "DoorsThatRemember" "now" "LDoorsThatRemember$House;", .fieldLink RX6 55 "DoorsThatRemember" "plan" "LDoorsThatRemember$Plan;", .methodLink RX6 122 yX6_isLodger, .instanceMethod yX6_isLodger, .selects RX6 yX6_isLodger yX6_isLodger, .initialized RX6, .code yX6_isLodger cX6_isLodger 2 (some .boolean), .methodLink RX6 106 yX6_at, .static yX6_at, .code yX6_at cX6_at 2 (some .int)] ++ wsX60 ++ wsX00 ++ wsX20)
def wsX6_grudge : List Cond := .code yX6_grudge cX6_grudge 3 (some .int) :: ([.fieldLink RX6 19 "DoorsThatRemember" "now" "LDoorsThatRemember$House;", .methodLink RX6 98 yX6_isDoor, .instanceMethod yX6_isDoor, .selects RX6 yX6_isDoor yX6_isDoor, .initialized RX6, .code yX6_isDoor cX6_isDoor 2 (some .boolean), .fieldLink RX6 55 "DoorsThatRemember" "plan" "LDoorsThatRemember$Plan;", .methodLink RX6 122 yX6_isLodger, .instanceMethod yX6_isLodger, .selects RX6 yX6_isLodger yX6_isLodger, .code yX6_isLodger cX6_isLodger 2 (some .boolean), .methodLink RX6 134 yX0_grudgeOf, .instanceMethod yX0_grudgeOf, .selects RX0 yX0_grudgeOf yX0_grudgeOf, .initialized RX0, .code yX0_grudgeOf cX0_grudgeOf 3 (some .int), .fieldLink RX0 9 "DoorsThatRemember$House" "grudges" "[I", .static yX6_at, .code yX6_at cX6_at 2 (some .int)] ++ wsX60 ++ wsX20 ++ wsX00)
def wsX6_go_r1 : List Cond := [Cond.fieldLink RX6 55 "DoorsThatRemember" "plan" "LDoorsThatRemember$Plan;", Cond.fieldLink RX6 19 "DoorsThatRemember" "now" "LDoorsThatRemember$House;", Cond.fieldLink RX6 31 "DoorsThatRemember" "undone" "LDoorsThatRemember$Past;", Cond.methodLink RX6 122 yX6_isLodger, Cond.instanceMethod yX6_isLodger, Cond.selects RX6 yX6_isLodger yX6_isLodger, Cond.initialized RX6, Cond.code yX6_isLodger cX6_isLodger 2 (some .boolean), Cond.methodLink RX6 98 yX6_isDoor, Cond.instanceMethod yX6_isDoor, Cond.selects RX6 yX6_isDoor yX6_isDoor, Cond.code yX6_isDoor cX6_isDoor 2 (some .boolean), Cond.methodLink RX6 106 yX6_at, Cond.static yX6_at, Cond.code yX6_at cX6_at 2 (some .int), Cond.methodLink RX6 138 yX2_otherSide, Cond.instanceMethod yX2_otherSide, Cond.selects RX2 yX2_otherSide yX2_otherSide, Cond.initialized RX2, Cond.code yX2_otherSide cX2_otherSide 3 (some .int), Cond.fieldLink RX2 9 "DoorsThatRemember$Plan" "sideA" "[I", Cond.fieldLink RX2 15 "DoorsThatRemember$Plan" "sideB" "[I", Cond.methodLink RX6 141 yX1_push, Cond.instanceMethod yX1_push]
def wsX6_go_r2 : List Cond := [Cond.selects RX1 yX1_push yX1_push, Cond.initialized RX1, Cond.code yX1_push cX1_push 3 none, Cond.fieldLink RX1 22 "DoorsThatRemember$Past" "size" "I", Cond.fieldLink RX1 15 "DoorsThatRemember$Past" "slots" "[LDoorsThatRemember$House;", Cond.methodLink RX1 26 yX1_dropOldest, Cond.instanceMethod yX1_dropOldest, Cond.selects RX1 yX1_dropOldest yX1_dropOldest, Cond.code yX1_dropOldest cX1_dropOldest 3 none, Cond.methodLink RX1 29 yX1_slotAt, Cond.instanceMethod yX1_slotAt, Cond.selects RX1 yX1_slotAt yX1_slotAt, Cond.code yX1_slotAt cX1_slotAt 2 (some (.object "DoorsThatRemember$House")), Cond.methodLink RX1 33 yX0_become, Cond.instanceMethod yX0_become, Cond.selects RX0 yX0_become yX0_become, Cond.initialized RX0, Cond.code yX0_become cX0_become 2 none, Cond.fieldLink RX0 9 "DoorsThatRemember$House" "grudges" "[I", Cond.fieldLink RX0 18 "DoorsThatRemember$House" "oilLeft" "[I", Cond.fieldLink RX0 21 "DoorsThatRemember$House" "place" "[I", Cond.fieldLink RX0 40 "DoorsThatRemember$House" "minutes" "I", Cond.fieldLink RX0 44 "DoorsThatRemember$House" "nights" "I", Cond.static yX6_copy]
def wsX6_go_r3 : List Cond := [Cond.code yX6_copy cX6_copy 3 none, Cond.methodLink RX6 145 yX0_passThrough, Cond.instanceMethod yX0_passThrough, Cond.selects RX0 yX0_passThrough yX0_passThrough, Cond.code yX0_passThrough cX0_passThrough 6 (some .int), Cond.methodLink RX0 63 yX0_minutesThrough, Cond.instanceMethod yX0_minutesThrough, Cond.selects RX0 yX0_minutesThrough yX0_minutesThrough, Cond.code yX0_minutesThrough cX0_minutesThrough 3 (some .int), Cond.methodLink RX0 55 yX0_isOiled, Cond.instanceMethod yX0_isOiled, Cond.selects RX0 yX0_isOiled yX0_isOiled, Cond.code yX0_isOiled cX0_isOiled 2 (some .boolean), Cond.methodLink RX0 59 yX0_grudgeOf, Cond.instanceMethod yX0_grudgeOf, Cond.selects RX0 yX0_grudgeOf yX0_grudgeOf, Cond.code yX0_grudgeOf cX0_grudgeOf 3 (some .int), Cond.methodLink RX0 66 yX2_otherSide, Cond.static yX6_put, Cond.code yX6_put cX6_put 3 none, Cond.methodLink RX0 69 yX2_grudgeNext, Cond.instanceMethod yX2_grudgeNext, Cond.selects RX2 yX2_grudgeNext yX2_grudgeNext, Cond.code yX2_grudgeNext cX2_grudgeNext 4 (some .int)]
def wsX6_go_r4 : List Cond := [Cond.fieldLink RX2 27 "DoorsThatRemember$Plan" "temper" "[I", Cond.fieldLink RX2 46 "DoorsThatRemember$Plan" "wear" "I", Cond.static yX6_grown, Cond.code yX6_grown cX6_grown 2 (some .int), Cond.methodLink RX6 226 Lib.Math.min.name, Cond.static Lib.Math.min.name, Cond.initialized "java/lang/Math", Cond.code Lib.Math.min.name Lib.Math.min.code 2 (some .int), Cond.static yX6_worn, Cond.code yX6_worn cX6_worn 2 (some .int), Cond.methodLink RX6 262 Lib.Math.max.name, Cond.static Lib.Math.max.name, Cond.code Lib.Math.max.name Lib.Math.max.code 2 (some .int), Cond.methodLink RX0 73 yX0_setGrudge, Cond.instanceMethod yX0_setGrudge, Cond.selects RX0 yX0_setGrudge yX0_setGrudge, Cond.code yX0_setGrudge cX0_setGrudge 4 none]
def wsX6_go : List Cond := .code yX6_go cX6_go 4 (some .int) :: ((wsX6_go_r1 ++ (wsX6_go_r2 ++ (wsX6_go_r3 ++ wsX6_go_r4))) ++ wsX60 ++ wsX00 ++ wsX20 ++ wsX10)
def wsX6_oil_r1 : List Cond := [Cond.fieldLink RX6 31 "DoorsThatRemember" "undone" "LDoorsThatRemember$Past;", Cond.fieldLink RX6 19 "DoorsThatRemember" "now" "LDoorsThatRemember$House;", Cond.fieldLink RX6 55 "DoorsThatRemember" "plan" "LDoorsThatRemember$Plan;", Cond.methodLink RX6 98 yX6_isDoor, Cond.instanceMethod yX6_isDoor, Cond.selects RX6 yX6_isDoor yX6_isDoor, Cond.initialized RX6, Cond.code yX6_isDoor cX6_isDoor 2 (some .boolean), Cond.methodLink RX6 141 yX1_push, Cond.instanceMethod yX1_push, Cond.selects RX1 yX1_push yX1_push, Cond.initialized RX1, Cond.code yX1_push cX1_push 3 none, Cond.fieldLink RX1 22 "DoorsThatRemember$Past" "size" "I", Cond.fieldLink RX1 15 "DoorsThatRemember$Past" "slots" "[LDoorsThatRemember$House;", Cond.methodLink RX1 26 yX1_dropOldest, Cond.instanceMethod yX1_dropOldest, Cond.selects RX1 yX1_dropOldest yX1_dropOldest, Cond.code yX1_dropOldest cX1_dropOldest 3 none, Cond.methodLink RX1 29 yX1_slotAt, Cond.instanceMethod yX1_slotAt, Cond.selects RX1 yX1_slotAt yX1_slotAt, Cond.code yX1_slotAt cX1_slotAt 2 (some (.object "DoorsThatRemember$House")), Cond.methodLink RX1 33 yX0_become]
def wsX6_oil_r2 : List Cond := [Cond.instanceMethod yX0_become, Cond.selects RX0 yX0_become yX0_become, Cond.initialized RX0, Cond.code yX0_become cX0_become 2 none, Cond.fieldLink RX0 9 "DoorsThatRemember$House" "grudges" "[I", Cond.fieldLink RX0 18 "DoorsThatRemember$House" "oilLeft" "[I", Cond.fieldLink RX0 21 "DoorsThatRemember$House" "place" "[I", Cond.fieldLink RX0 40 "DoorsThatRemember$House" "minutes" "I", Cond.fieldLink RX0 44 "DoorsThatRemember$House" "nights" "I", Cond.static yX6_copy, Cond.code yX6_copy cX6_copy 3 none, Cond.methodLink RX6 152 yX6_put, Cond.static yX6_put, Cond.code yX6_put cX6_put 3 none, Cond.methodLink RX6 156 yX0_oiledDoors, Cond.instanceMethod yX0_oiledDoors, Cond.selects RX0 yX0_oiledDoors yX0_oiledDoors, Cond.code yX0_oiledDoors cX0_oiledDoors 3 (some .int), Cond.methodLink RX0 55 yX0_isOiled, Cond.instanceMethod yX0_isOiled, Cond.selects RX0 yX0_isOiled yX0_isOiled, Cond.code yX0_isOiled cX0_isOiled 2 (some .boolean), Cond.static yX6_at, Cond.code yX6_at cX6_at 2 (some .int)]
def wsX6_oil : List Cond := .code yX6_oil cX6_oil 2 (some .int) :: ((wsX6_oil_r1 ++ wsX6_oil_r2) ++ wsX60 ++ wsX00 ++ wsX20 ++ wsX10)
def wsX6_night_r1 : List Cond := [Cond.fieldLink RX6 19 "DoorsThatRemember" "now" "LDoorsThatRemember$House;", Cond.fieldLink RX6 31 "DoorsThatRemember" "undone" "LDoorsThatRemember$Past;", Cond.fieldLink RX6 55 "DoorsThatRemember" "plan" "LDoorsThatRemember$Plan;", Cond.methodLink RX6 73 yX6_within, Cond.static yX6_within, Cond.initialized RX6, Cond.code yX6_within cX6_within 3 (some .boolean), Cond.methodLink RX6 141 yX1_push, Cond.instanceMethod yX1_push, Cond.selects RX1 yX1_push yX1_push, Cond.initialized RX1, Cond.code yX1_push cX1_push 3 none, Cond.fieldLink RX1 22 "DoorsThatRemember$Past" "size" "I", Cond.fieldLink RX1 15 "DoorsThatRemember$Past" "slots" "[LDoorsThatRemember$House;", Cond.methodLink RX1 26 yX1_dropOldest, Cond.instanceMethod yX1_dropOldest, Cond.selects RX1 yX1_dropOldest yX1_dropOldest, Cond.code yX1_dropOldest cX1_dropOldest 3 none, Cond.methodLink RX1 29 yX1_slotAt, Cond.instanceMethod yX1_slotAt, Cond.selects RX1 yX1_slotAt yX1_slotAt, Cond.code yX1_slotAt cX1_slotAt 2 (some (.object "DoorsThatRemember$House")), Cond.methodLink RX1 33 yX0_become, Cond.instanceMethod yX0_become]
def wsX6_night_r2 : List Cond := [Cond.selects RX0 yX0_become yX0_become, Cond.initialized RX0, Cond.code yX0_become cX0_become 2 none, Cond.fieldLink RX0 9 "DoorsThatRemember$House" "grudges" "[I", Cond.fieldLink RX0 18 "DoorsThatRemember$House" "oilLeft" "[I", Cond.fieldLink RX0 21 "DoorsThatRemember$House" "place" "[I", Cond.fieldLink RX0 40 "DoorsThatRemember$House" "minutes" "I", Cond.fieldLink RX0 44 "DoorsThatRemember$House" "nights" "I", Cond.static yX6_copy, Cond.code yX6_copy cX6_copy 3 none, Cond.methodLink RX6 163 yX0_sleep, Cond.instanceMethod yX0_sleep, Cond.selects RX0 yX0_sleep yX0_sleep, Cond.code yX0_sleep cX0_sleep 3 none, Cond.methodLink RX0 80 yX0_passOn, Cond.instanceMethod yX0_passOn, Cond.selects RX0 yX0_passOn yX0_passOn, Cond.code yX0_passOn cX0_passOn 6 none, Cond.fieldLink RX0 15 "DoorsThatRemember$House" "passing" "[I", Cond.static yX6_fill, Cond.code yX6_fill cX6_fill 3 none, Cond.static yX6_at, Cond.code yX6_at cX6_at 2 (some .int), Cond.methodLink RX0 55 yX0_isOiled]
def wsX6_night_r3 : List Cond := [Cond.instanceMethod yX0_isOiled, Cond.selects RX0 yX0_isOiled yX0_isOiled, Cond.code yX0_isOiled cX0_isOiled 2 (some .boolean), Cond.methodLink RX0 59 yX0_grudgeOf, Cond.instanceMethod yX0_grudgeOf, Cond.selects RX0 yX0_grudgeOf yX0_grudgeOf, Cond.code yX0_grudgeOf cX0_grudgeOf 3 (some .int), Cond.static yX6_put, Cond.code yX6_put cX6_put 3 none, Cond.static yX6_worn, Cond.code yX6_worn cX6_worn 2 (some .int), Cond.methodLink RX6 262 Lib.Math.max.name, Cond.static Lib.Math.max.name, Cond.initialized "java/lang/Math", Cond.code Lib.Math.max.name Lib.Math.max.code 2 (some .int), Cond.static yX6_grown, Cond.code yX6_grown cX6_grown 2 (some .int), Cond.methodLink RX6 226 Lib.Math.min.name, Cond.static Lib.Math.min.name, Cond.code Lib.Math.min.name Lib.Math.min.code 2 (some .int), Cond.methodLink RX0 73 yX0_setGrudge, Cond.instanceMethod yX0_setGrudge, Cond.selects RX0 yX0_setGrudge yX0_setGrudge, Cond.code yX0_setGrudge cX0_setGrudge 4 none]
def wsX6_night_r4 : List Cond := [Cond.methodLink RX0 84 yX0_dryOil, Cond.instanceMethod yX0_dryOil, Cond.selects RX0 yX0_dryOil yX0_dryOil, Cond.code yX0_dryOil cX0_dryOil 2 none, Cond.methodLink RX0 108 Lib.Math.max.name]
def wsX6_night : List Cond := .code yX6_night cX6_night 3 (some .int) :: ((wsX6_night_r1 ++ (wsX6_night_r2 ++ (wsX6_night_r3 ++ wsX6_night_r4))) ++ wsX60 ++ wsX00 ++ wsX10 ++ wsX20)
def wsX6_undo_r1 : List Cond := [Cond.fieldLink RX6 31 "DoorsThatRemember" "undone" "LDoorsThatRemember$Past;", Cond.fieldLink RX6 19 "DoorsThatRemember" "now" "LDoorsThatRemember$House;", Cond.methodLink RX6 166 yX1_pop, Cond.instanceMethod yX1_pop, Cond.selects RX1 yX1_pop yX1_pop, Cond.initialized RX1, Cond.code yX1_pop cX1_pop 3 (some .boolean), Cond.fieldLink RX1 22 "DoorsThatRemember$Past" "size" "I", Cond.methodLink RX1 29 yX1_slotAt, Cond.instanceMethod yX1_slotAt, Cond.selects RX1 yX1_slotAt yX1_slotAt, Cond.code yX1_slotAt cX1_slotAt 2 (some (.object "DoorsThatRemember$House")), Cond.fieldLink RX1 15 "DoorsThatRemember$Past" "slots" "[LDoorsThatRemember$House;", Cond.methodLink RX1 33 yX0_become, Cond.instanceMethod yX0_become, Cond.selects RX0 yX0_become yX0_become, Cond.initialized RX0, Cond.code yX0_become cX0_become 2 none, Cond.fieldLink RX0 9 "DoorsThatRemember$House" "grudges" "[I", Cond.fieldLink RX0 18 "DoorsThatRemember$House" "oilLeft" "[I", Cond.fieldLink RX0 21 "DoorsThatRemember$House" "place" "[I", Cond.fieldLink RX0 40 "DoorsThatRemember$House" "minutes" "I", Cond.fieldLink RX0 44 "DoorsThatRemember$House" "nights" "I", Cond.static yX6_copy]
def wsX6_undo_r2 : List Cond := [Cond.initialized RX6, Cond.code yX6_copy cX6_copy 3 none]
def wsX6_undo : List Cond := .code yX6_undo cX6_undo 1 (some .int) :: ((wsX6_undo_r1 ++ wsX6_undo_r2) ++ wsX60 ++ wsX10 ++ wsX00)
def wsX6_isRoom : List Cond := .code yX6_isRoom cX6_isRoom 2 (some .boolean) :: ([.fieldLink RX6 55 "DoorsThatRemember" "plan" "LDoorsThatRemember$Plan;"] ++ wsX60 ++ wsX20)
def wsX6_way_r1 : List Cond := [Cond.fieldLink RX6 41 "DoorsThatRemember" "ways" "LDoorsThatRemember$Ways;", Cond.fieldLink RX6 55 "DoorsThatRemember" "plan" "LDoorsThatRemember$Plan;", Cond.fieldLink RX6 19 "DoorsThatRemember" "now" "LDoorsThatRemember$House;", Cond.methodLink RX6 122 yX6_isLodger, Cond.instanceMethod yX6_isLodger, Cond.selects RX6 yX6_isLodger yX6_isLodger, Cond.initialized RX6, Cond.code yX6_isLodger cX6_isLodger 2 (some .boolean), Cond.methodLink RX6 173 yX6_isRoom, Cond.instanceMethod yX6_isRoom, Cond.selects RX6 yX6_isRoom yX6_isRoom, Cond.code yX6_isRoom cX6_isRoom 2 (some .boolean), Cond.methodLink RX6 176 yX5_measure, Cond.instanceMethod yX5_measure, Cond.selects RX5 yX5_measure yX5_measure, Cond.initialized RX5, Cond.code yX5_measure cX5_measure 8 none, Cond.fieldLink RX5 15 "DoorsThatRemember$Ways" "price" "[I", Cond.fieldLink RX5 9 "DoorsThatRemember$Ways" "least" "[I", Cond.constant RX5 38 (1000000), Cond.static yX6_holds, Cond.code yX6_holds cX6_holds 2 (some .boolean), Cond.methodLink RX5 28 yX0_minutesThrough, Cond.instanceMethod yX0_minutesThrough]
def wsX6_way_r2 : List Cond := [Cond.selects RX0 yX0_minutesThrough yX0_minutesThrough, Cond.initialized RX0, Cond.code yX0_minutesThrough cX0_minutesThrough 3 (some .int), Cond.methodLink RX0 55 yX0_isOiled, Cond.instanceMethod yX0_isOiled, Cond.selects RX0 yX0_isOiled yX0_isOiled, Cond.code yX0_isOiled cX0_isOiled 2 (some .boolean), Cond.fieldLink RX0 18 "DoorsThatRemember$House" "oilLeft" "[I", Cond.static yX6_at, Cond.code yX6_at cX6_at 2 (some .int), Cond.methodLink RX0 59 yX0_grudgeOf, Cond.instanceMethod yX0_grudgeOf, Cond.selects RX0 yX0_grudgeOf yX0_grudgeOf, Cond.code yX0_grudgeOf cX0_grudgeOf 3 (some .int), Cond.fieldLink RX0 9 "DoorsThatRemember$House" "grudges" "[I", Cond.static yX6_put, Cond.code yX6_put cX6_put 3 none, Cond.static yX6_fill, Cond.code yX6_fill cX6_fill 3 none, Cond.methodLink RX5 46 yX5_shorten, Cond.instanceMethod yX5_shorten, Cond.selects RX5 yX5_shorten yX5_shorten, Cond.code yX5_shorten cX5_shorten 8 (some .boolean), Cond.methodLink RX6 180 yX5_minutesFrom]
def wsX6_way_r3 : List Cond := [Cond.instanceMethod yX5_minutesFrom, Cond.selects RX5 yX5_minutesFrom yX5_minutesFrom, Cond.code yX5_minutesFrom cX5_minutesFrom 2 (some .int)]
def wsX6_way : List Cond := .code yX6_way cX6_way 4 (some .int) :: ((wsX6_way_r1 ++ (wsX6_way_r2 ++ wsX6_way_r3)) ++ wsX60 ++ wsX20 ++ wsX50 ++ wsX00)
def wsX6_first_r1 : List Cond := [Cond.fieldLink RX6 41 "DoorsThatRemember" "ways" "LDoorsThatRemember$Ways;", Cond.fieldLink RX6 55 "DoorsThatRemember" "plan" "LDoorsThatRemember$Plan;", Cond.fieldLink RX6 19 "DoorsThatRemember" "now" "LDoorsThatRemember$House;", Cond.methodLink RX6 122 yX6_isLodger, Cond.instanceMethod yX6_isLodger, Cond.selects RX6 yX6_isLodger yX6_isLodger, Cond.initialized RX6, Cond.code yX6_isLodger cX6_isLodger 2 (some .boolean), Cond.methodLink RX6 173 yX6_isRoom, Cond.instanceMethod yX6_isRoom, Cond.selects RX6 yX6_isRoom yX6_isRoom, Cond.code yX6_isRoom cX6_isRoom 2 (some .boolean), Cond.methodLink RX6 176 yX5_measure, Cond.instanceMethod yX5_measure, Cond.selects RX5 yX5_measure yX5_measure, Cond.initialized RX5, Cond.code yX5_measure cX5_measure 8 none, Cond.fieldLink RX5 15 "DoorsThatRemember$Ways" "price" "[I", Cond.fieldLink RX5 9 "DoorsThatRemember$Ways" "least" "[I", Cond.constant RX5 38 (1000000), Cond.static yX6_holds, Cond.code yX6_holds cX6_holds 2 (some .boolean), Cond.methodLink RX5 28 yX0_minutesThrough, Cond.instanceMethod yX0_minutesThrough]
def wsX6_first_r2 : List Cond := [Cond.selects RX0 yX0_minutesThrough yX0_minutesThrough, Cond.initialized RX0, Cond.code yX0_minutesThrough cX0_minutesThrough 3 (some .int), Cond.methodLink RX0 55 yX0_isOiled, Cond.instanceMethod yX0_isOiled, Cond.selects RX0 yX0_isOiled yX0_isOiled, Cond.code yX0_isOiled cX0_isOiled 2 (some .boolean), Cond.fieldLink RX0 18 "DoorsThatRemember$House" "oilLeft" "[I", Cond.static yX6_at, Cond.code yX6_at cX6_at 2 (some .int), Cond.methodLink RX0 59 yX0_grudgeOf, Cond.instanceMethod yX0_grudgeOf, Cond.selects RX0 yX0_grudgeOf yX0_grudgeOf, Cond.code yX0_grudgeOf cX0_grudgeOf 3 (some .int), Cond.fieldLink RX0 9 "DoorsThatRemember$House" "grudges" "[I", Cond.static yX6_put, Cond.code yX6_put cX6_put 3 none, Cond.static yX6_fill, Cond.code yX6_fill cX6_fill 3 none, Cond.methodLink RX5 46 yX5_shorten, Cond.instanceMethod yX5_shorten, Cond.selects RX5 yX5_shorten yX5_shorten, Cond.code yX5_shorten cX5_shorten 8 (some .boolean), Cond.methodLink RX6 184 yX5_lowestDoorFrom]
def wsX6_first_r3 : List Cond := [Cond.instanceMethod yX5_lowestDoorFrom, Cond.selects RX5 yX5_lowestDoorFrom yX5_lowestDoorFrom, Cond.code yX5_lowestDoorFrom cX5_lowestDoorFrom 5 (some .int), Cond.methodLink RX5 60 yX5_minutesFrom, Cond.instanceMethod yX5_minutesFrom, Cond.selects RX5 yX5_minutesFrom yX5_minutesFrom, Cond.code yX5_minutesFrom cX5_minutesFrom 2 (some .int), Cond.methodLink RX5 64 yX2_otherSide, Cond.instanceMethod yX2_otherSide, Cond.selects RX2 yX2_otherSide yX2_otherSide, Cond.initialized RX2, Cond.code yX2_otherSide cX2_otherSide 3 (some .int), Cond.fieldLink RX2 9 "DoorsThatRemember$Plan" "sideA" "[I", Cond.fieldLink RX2 15 "DoorsThatRemember$Plan" "sideB" "[I"]
def wsX6_first : List Cond := .code yX6_first cX6_first 4 (some .int) :: ((wsX6_first_r1 ++ (wsX6_first_r2 ++ wsX6_first_r3)) ++ wsX60 ++ wsX20 ++ wsX50 ++ wsX00)
def wsJ6_bitCount_0f7a4 : List Cond := .code yJ6_bitCount_0f7a4 cJ6_bitCount_0f7a4 1 (some .int) :: ([.constant RJ6 265 (1431655765), .constant RJ6 266 (858993459), .constant RJ6 267 (252645135)])
def wsX6_isInTimeWith_r1 : List Cond := [Cond.fieldLink RX6 41 "DoorsThatRemember" "ways" "LDoorsThatRemember$Ways;", Cond.fieldLink RX6 55 "DoorsThatRemember" "plan" "LDoorsThatRemember$Plan;", Cond.fieldLink RX6 19 "DoorsThatRemember" "now" "LDoorsThatRemember$House;", Cond.methodLink RX6 106 yX6_at, Cond.static yX6_at, Cond.initialized RX6, Cond.code yX6_at cX6_at 2 (some .int), Cond.methodLink RX6 176 yX5_measure, Cond.instanceMethod yX5_measure, Cond.selects RX5 yX5_measure yX5_measure, Cond.initialized RX5, Cond.code yX5_measure cX5_measure 8 none, Cond.fieldLink RX5 15 "DoorsThatRemember$Ways" "price" "[I", Cond.fieldLink RX5 9 "DoorsThatRemember$Ways" "least" "[I", Cond.constant RX5 38 (1000000), Cond.static yX6_holds, Cond.code yX6_holds cX6_holds 2 (some .boolean), Cond.methodLink RX5 28 yX0_minutesThrough, Cond.instanceMethod yX0_minutesThrough, Cond.selects RX0 yX0_minutesThrough yX0_minutesThrough, Cond.initialized RX0, Cond.code yX0_minutesThrough cX0_minutesThrough 3 (some .int), Cond.methodLink RX0 55 yX0_isOiled, Cond.instanceMethod yX0_isOiled]
def wsX6_isInTimeWith_r2 : List Cond := [Cond.selects RX0 yX0_isOiled yX0_isOiled, Cond.code yX0_isOiled cX0_isOiled 2 (some .boolean), Cond.fieldLink RX0 18 "DoorsThatRemember$House" "oilLeft" "[I", Cond.methodLink RX0 59 yX0_grudgeOf, Cond.instanceMethod yX0_grudgeOf, Cond.selects RX0 yX0_grudgeOf yX0_grudgeOf, Cond.code yX0_grudgeOf cX0_grudgeOf 3 (some .int), Cond.fieldLink RX0 9 "DoorsThatRemember$House" "grudges" "[I", Cond.static yX6_put, Cond.code yX6_put cX6_put 3 none, Cond.static yX6_fill, Cond.code yX6_fill cX6_fill 3 none, Cond.methodLink RX5 46 yX5_shorten, Cond.instanceMethod yX5_shorten, Cond.selects RX5 yX5_shorten yX5_shorten, Cond.code yX5_shorten cX5_shorten 8 (some .boolean), Cond.methodLink RX6 180 yX5_minutesFrom, Cond.instanceMethod yX5_minutesFrom, Cond.selects RX5 yX5_minutesFrom yX5_minutesFrom, Cond.code yX5_minutesFrom cX5_minutesFrom 2 (some .int)]
def wsX6_isInTimeWith : List Cond := .code yX6_isInTimeWith cX6_isInTimeWith 5 (some .boolean) :: ((wsX6_isInTimeWith_r1 ++ wsX6_isInTimeWith_r2) ++ wsX60 ++ wsX20 ++ wsX00 ++ wsX50)
def wsX6_inTime_r1 : List Cond := [Cond.fieldLink RX6 55 "DoorsThatRemember" "plan" "LDoorsThatRemember$Plan;", Cond.methodLink RX6 122 yX6_isLodger, Cond.instanceMethod yX6_isLodger, Cond.selects RX6 yX6_isLodger yX6_isLodger, Cond.initialized RX6, Cond.code yX6_isLodger cX6_isLodger 2 (some .boolean), Cond.methodLink RX6 73 yX6_within, Cond.static yX6_within, Cond.code yX6_within cX6_within 3 (some .boolean), Cond.methodLink RX6 188 yJ6_bitCount_0f7a4, Cond.static yJ6_bitCount_0f7a4, Cond.initialized RJ6, Cond.code yJ6_bitCount_0f7a4 cJ6_bitCount_0f7a4 1 (some .int), Cond.constant RJ6 265 (1431655765), Cond.constant RJ6 266 (858993459), Cond.constant RJ6 267 (252645135), Cond.methodLink RX6 193 yX6_isInTimeWith, Cond.instanceMethod yX6_isInTimeWith, Cond.selects RX6 yX6_isInTimeWith yX6_isInTimeWith, Cond.code yX6_isInTimeWith cX6_isInTimeWith 5 (some .boolean), Cond.fieldLink RX6 41 "DoorsThatRemember" "ways" "LDoorsThatRemember$Ways;", Cond.fieldLink RX6 19 "DoorsThatRemember" "now" "LDoorsThatRemember$House;", Cond.methodLink RX6 106 yX6_at, Cond.static yX6_at]
def wsX6_inTime_r2 : List Cond := [Cond.code yX6_at cX6_at 2 (some .int), Cond.methodLink RX6 176 yX5_measure, Cond.instanceMethod yX5_measure, Cond.selects RX5 yX5_measure yX5_measure, Cond.initialized RX5, Cond.code yX5_measure cX5_measure 8 none, Cond.fieldLink RX5 15 "DoorsThatRemember$Ways" "price" "[I", Cond.fieldLink RX5 9 "DoorsThatRemember$Ways" "least" "[I", Cond.constant RX5 38 (1000000), Cond.static yX6_holds, Cond.code yX6_holds cX6_holds 2 (some .boolean), Cond.methodLink RX5 28 yX0_minutesThrough, Cond.instanceMethod yX0_minutesThrough, Cond.selects RX0 yX0_minutesThrough yX0_minutesThrough, Cond.initialized RX0, Cond.code yX0_minutesThrough cX0_minutesThrough 3 (some .int), Cond.methodLink RX0 55 yX0_isOiled, Cond.instanceMethod yX0_isOiled, Cond.selects RX0 yX0_isOiled yX0_isOiled, Cond.code yX0_isOiled cX0_isOiled 2 (some .boolean), Cond.fieldLink RX0 18 "DoorsThatRemember$House" "oilLeft" "[I", Cond.methodLink RX0 59 yX0_grudgeOf, Cond.instanceMethod yX0_grudgeOf, Cond.selects RX0 yX0_grudgeOf yX0_grudgeOf]
def wsX6_inTime_r3 : List Cond := [Cond.code yX0_grudgeOf cX0_grudgeOf 3 (some .int), Cond.fieldLink RX0 9 "DoorsThatRemember$House" "grudges" "[I", Cond.static yX6_put, Cond.code yX6_put cX6_put 3 none, Cond.static yX6_fill, Cond.code yX6_fill cX6_fill 3 none, Cond.methodLink RX5 46 yX5_shorten, Cond.instanceMethod yX5_shorten, Cond.selects RX5 yX5_shorten yX5_shorten, Cond.code yX5_shorten cX5_shorten 8 (some .boolean), Cond.methodLink RX6 180 yX5_minutesFrom, Cond.instanceMethod yX5_minutesFrom, Cond.selects RX5 yX5_minutesFrom yX5_minutesFrom, Cond.code yX5_minutesFrom cX5_minutesFrom 2 (some .int)]
def wsX6_inTime : List Cond := .code yX6_inTime cX6_inTime 6 (some .int) :: ((wsX6_inTime_r1 ++ (wsX6_inTime_r2 ++ wsX6_inTime_r3)) ++ wsX60 ++ wsX20 ++ wsX00 ++ wsX50)
def wsX6_rooms_r1 : List Cond := [Cond.fieldLink RX6 48 "DoorsThatRemember" "rooming" "LDoorsThatRemember$Rooming;", Cond.fieldLink RX6 55 "DoorsThatRemember" "plan" "LDoorsThatRemember$Plan;", Cond.fieldLink RX6 19 "DoorsThatRemember" "now" "LDoorsThatRemember$House;", Cond.fieldLink RX6 41 "DoorsThatRemember" "ways" "LDoorsThatRemember$Ways;", Cond.methodLink RX6 122 yX6_isLodger, Cond.instanceMethod yX6_isLodger, Cond.selects RX6 yX6_isLodger yX6_isLodger, Cond.initialized RX6, Cond.code yX6_isLodger cX6_isLodger 2 (some .boolean), Cond.methodLink RX6 196 yX3_measure, Cond.instanceMethod yX3_measure, Cond.selects RX3 yX3_measure yX3_measure, Cond.initialized RX3, Cond.code yX3_measure cX3_measure 6 none, Cond.fieldLink RX3 21 "DoorsThatRemember$Rooming" "lodgerCount" "I", Cond.fieldLink RX3 25 "DoorsThatRemember$Rooming" "roomCount" "I", Cond.fieldLink RX3 9 "DoorsThatRemember$Rooming" "loss" "[I", Cond.static yX6_at, Cond.code yX6_at cX6_at 2 (some .int), Cond.methodLink RX3 33 yX5_measure, Cond.instanceMethod yX5_measure, Cond.selects RX5 yX5_measure yX5_measure, Cond.initialized RX5, Cond.code yX5_measure cX5_measure 8 none]
def wsX6_rooms_r2 : List Cond := [Cond.fieldLink RX5 15 "DoorsThatRemember$Ways" "price" "[I", Cond.fieldLink RX5 9 "DoorsThatRemember$Ways" "least" "[I", Cond.constant RX5 38 (1000000), Cond.static yX6_holds, Cond.code yX6_holds cX6_holds 2 (some .boolean), Cond.methodLink RX5 28 yX0_minutesThrough, Cond.instanceMethod yX0_minutesThrough, Cond.selects RX0 yX0_minutesThrough yX0_minutesThrough, Cond.initialized RX0, Cond.code yX0_minutesThrough cX0_minutesThrough 3 (some .int), Cond.methodLink RX0 55 yX0_isOiled, Cond.instanceMethod yX0_isOiled, Cond.selects RX0 yX0_isOiled yX0_isOiled, Cond.code yX0_isOiled cX0_isOiled 2 (some .boolean), Cond.fieldLink RX0 18 "DoorsThatRemember$House" "oilLeft" "[I", Cond.methodLink RX0 59 yX0_grudgeOf, Cond.instanceMethod yX0_grudgeOf, Cond.selects RX0 yX0_grudgeOf yX0_grudgeOf, Cond.code yX0_grudgeOf cX0_grudgeOf 3 (some .int), Cond.fieldLink RX0 9 "DoorsThatRemember$House" "grudges" "[I", Cond.static yX6_put, Cond.code yX6_put cX6_put 3 none, Cond.static yX6_fill, Cond.code yX6_fill cX6_fill 3 none]
def wsX6_rooms_r3 : List Cond := [Cond.methodLink RX5 46 yX5_shorten, Cond.instanceMethod yX5_shorten, Cond.selects RX5 yX5_shorten yX5_shorten, Cond.code yX5_shorten cX5_shorten 8 (some .boolean), Cond.methodLink RX3 39 yX5_minutesFrom, Cond.instanceMethod yX5_minutesFrom, Cond.selects RX5 yX5_minutesFrom yX5_minutesFrom, Cond.code yX5_minutesFrom cX5_minutesFrom 2 (some .int), Cond.methodLink RX6 199 yX3_bestCode, Cond.instanceMethod yX3_bestCode, Cond.selects RX3 yX3_bestCode yX3_bestCode, Cond.code yX3_bestCode cX3_bestCode 6 (some .int), Cond.constant RX3 47 (1000000), Cond.methodLink RX3 48 yX3_sumOf, Cond.instanceMethod yX3_sumOf, Cond.selects RX3 yX3_sumOf yX3_sumOf, Cond.code yX3_sumOf cX3_sumOf 8 (some .int), Cond.methodLink RX6 202 yX3_sumOf, Cond.methodLink RX6 205 yX3_roomIn, Cond.instanceMethod yX3_roomIn, Cond.selects RX3 yX3_roomIn yX3_roomIn, Cond.code yX3_roomIn cX3_roomIn 5 (some .int)]
def wsX6_rooms : List Cond := .code yX6_rooms cX6_rooms 3 (some .int) :: ((wsX6_rooms_r1 ++ (wsX6_rooms_r2 ++ wsX6_rooms_r3)) ++ wsX60 ++ wsX20 ++ wsX30 ++ wsX50 ++ wsX00)
def wsX6_behind_r1 : List Cond := [Cond.fieldLink RX6 23 "DoorsThatRemember" "trial" "LDoorsThatRemember$House;", Cond.fieldLink RX6 19 "DoorsThatRemember" "now" "LDoorsThatRemember$House;", Cond.fieldLink RX6 55 "DoorsThatRemember" "plan" "LDoorsThatRemember$Plan;", Cond.methodLink RX6 73 yX6_within, Cond.static yX6_within, Cond.initialized RX6, Cond.code yX6_within cX6_within 3 (some .boolean), Cond.methodLink RX6 98 yX6_isDoor, Cond.instanceMethod yX6_isDoor, Cond.selects RX6 yX6_isDoor yX6_isDoor, Cond.code yX6_isDoor cX6_isDoor 2 (some .boolean), Cond.methodLink RX6 122 yX6_isLodger, Cond.instanceMethod yX6_isLodger, Cond.selects RX6 yX6_isLodger yX6_isLodger, Cond.code yX6_isLodger cX6_isLodger 2 (some .boolean), Cond.methodLink RX6 208 yX0_become, Cond.instanceMethod yX0_become, Cond.selects RX0 yX0_become yX0_become, Cond.initialized RX0, Cond.code yX0_become cX0_become 2 none, Cond.fieldLink RX0 9 "DoorsThatRemember$House" "grudges" "[I", Cond.fieldLink RX0 18 "DoorsThatRemember$House" "oilLeft" "[I", Cond.fieldLink RX0 21 "DoorsThatRemember$House" "place" "[I", Cond.fieldLink RX0 40 "DoorsThatRemember$House" "minutes" "I"]
def wsX6_behind_r2 : List Cond := [Cond.fieldLink RX0 44 "DoorsThatRemember$House" "nights" "I", Cond.static yX6_copy, Cond.code yX6_copy cX6_copy 3 none, Cond.methodLink RX6 211 yX0_sleepAgainstOne, Cond.instanceMethod yX0_sleepAgainstOne, Cond.selects RX0 yX0_sleepAgainstOne yX0_sleepAgainstOne, Cond.code yX0_sleepAgainstOne cX0_sleepAgainstOne 5 none, Cond.methodLink RX0 80 yX0_passOn, Cond.instanceMethod yX0_passOn, Cond.selects RX0 yX0_passOn yX0_passOn, Cond.code yX0_passOn cX0_passOn 6 none, Cond.fieldLink RX0 15 "DoorsThatRemember$House" "passing" "[I", Cond.static yX6_fill, Cond.code yX6_fill cX6_fill 3 none, Cond.static yX6_at, Cond.code yX6_at cX6_at 2 (some .int), Cond.methodLink RX0 55 yX0_isOiled, Cond.instanceMethod yX0_isOiled, Cond.selects RX0 yX0_isOiled yX0_isOiled, Cond.code yX0_isOiled cX0_isOiled 2 (some .boolean), Cond.methodLink RX0 59 yX0_grudgeOf, Cond.instanceMethod yX0_grudgeOf, Cond.selects RX0 yX0_grudgeOf yX0_grudgeOf, Cond.code yX0_grudgeOf cX0_grudgeOf 3 (some .int)]
def wsX6_behind_r3 : List Cond := [Cond.static yX6_put, Cond.code yX6_put cX6_put 3 none, Cond.static yX6_worn, Cond.code yX6_worn cX6_worn 2 (some .int), Cond.methodLink RX6 262 Lib.Math.max.name, Cond.static Lib.Math.max.name, Cond.initialized "java/lang/Math", Cond.code Lib.Math.max.name Lib.Math.max.code 2 (some .int), Cond.static yX6_grown, Cond.code yX6_grown cX6_grown 2 (some .int), Cond.methodLink RX6 226 Lib.Math.min.name, Cond.static Lib.Math.min.name, Cond.code Lib.Math.min.name Lib.Math.min.code 2 (some .int), Cond.methodLink RX0 73 yX0_setGrudge, Cond.instanceMethod yX0_setGrudge, Cond.selects RX0 yX0_setGrudge yX0_setGrudge, Cond.code yX0_setGrudge cX0_setGrudge 4 none, Cond.methodLink RX0 84 yX0_dryOil, Cond.instanceMethod yX0_dryOil, Cond.selects RX0 yX0_dryOil yX0_dryOil, Cond.code yX0_dryOil cX0_dryOil 2 none, Cond.methodLink RX0 108 Lib.Math.max.name, Cond.methodLink RX6 134 yX0_grudgeOf]
def wsX6_behind : List Cond := .code yX6_behind cX6_behind 4 (some .int) :: ((wsX6_behind_r1 ++ (wsX6_behind_r2 ++ wsX6_behind_r3)) ++ wsX60 ++ wsX20 ++ wsX00)
def wsX6_worst_r1 : List Cond := [Cond.fieldLink RX6 23 "DoorsThatRemember" "trial" "LDoorsThatRemember$House;", Cond.fieldLink RX6 19 "DoorsThatRemember" "now" "LDoorsThatRemember$House;", Cond.fieldLink RX6 55 "DoorsThatRemember" "plan" "LDoorsThatRemember$Plan;", Cond.methodLink RX6 73 yX6_within, Cond.static yX6_within, Cond.initialized RX6, Cond.code yX6_within cX6_within 3 (some .boolean), Cond.methodLink RX6 122 yX6_isLodger, Cond.instanceMethod yX6_isLodger, Cond.selects RX6 yX6_isLodger yX6_isLodger, Cond.code yX6_isLodger cX6_isLodger 2 (some .boolean), Cond.methodLink RX6 208 yX0_become, Cond.instanceMethod yX0_become, Cond.selects RX0 yX0_become yX0_become, Cond.initialized RX0, Cond.code yX0_become cX0_become 2 none, Cond.fieldLink RX0 9 "DoorsThatRemember$House" "grudges" "[I", Cond.fieldLink RX0 18 "DoorsThatRemember$House" "oilLeft" "[I", Cond.fieldLink RX0 21 "DoorsThatRemember$House" "place" "[I", Cond.fieldLink RX0 40 "DoorsThatRemember$House" "minutes" "I", Cond.fieldLink RX0 44 "DoorsThatRemember$House" "nights" "I", Cond.static yX6_copy, Cond.code yX6_copy cX6_copy 3 none, Cond.methodLink RX6 211 yX0_sleepAgainstOne]
def wsX6_worst_r2 : List Cond := [Cond.instanceMethod yX0_sleepAgainstOne, Cond.selects RX0 yX0_sleepAgainstOne yX0_sleepAgainstOne, Cond.code yX0_sleepAgainstOne cX0_sleepAgainstOne 5 none, Cond.methodLink RX0 80 yX0_passOn, Cond.instanceMethod yX0_passOn, Cond.selects RX0 yX0_passOn yX0_passOn, Cond.code yX0_passOn cX0_passOn 6 none, Cond.fieldLink RX0 15 "DoorsThatRemember$House" "passing" "[I", Cond.static yX6_fill, Cond.code yX6_fill cX6_fill 3 none, Cond.static yX6_at, Cond.code yX6_at cX6_at 2 (some .int), Cond.methodLink RX0 55 yX0_isOiled, Cond.instanceMethod yX0_isOiled, Cond.selects RX0 yX0_isOiled yX0_isOiled, Cond.code yX0_isOiled cX0_isOiled 2 (some .boolean), Cond.methodLink RX0 59 yX0_grudgeOf, Cond.instanceMethod yX0_grudgeOf, Cond.selects RX0 yX0_grudgeOf yX0_grudgeOf, Cond.code yX0_grudgeOf cX0_grudgeOf 3 (some .int), Cond.static yX6_put, Cond.code yX6_put cX6_put 3 none, Cond.static yX6_worn, Cond.code yX6_worn cX6_worn 2 (some .int)]
def wsX6_worst_r3 : List Cond := [Cond.methodLink RX6 262 Lib.Math.max.name, Cond.static Lib.Math.max.name, Cond.initialized "java/lang/Math", Cond.code Lib.Math.max.name Lib.Math.max.code 2 (some .int), Cond.static yX6_grown, Cond.code yX6_grown cX6_grown 2 (some .int), Cond.methodLink RX6 226 Lib.Math.min.name, Cond.static Lib.Math.min.name, Cond.code Lib.Math.min.name Lib.Math.min.code 2 (some .int), Cond.methodLink RX0 73 yX0_setGrudge, Cond.instanceMethod yX0_setGrudge, Cond.selects RX0 yX0_setGrudge yX0_setGrudge, Cond.code yX0_setGrudge cX0_setGrudge 4 none, Cond.methodLink RX0 84 yX0_dryOil, Cond.instanceMethod yX0_dryOil, Cond.selects RX0 yX0_dryOil yX0_dryOil, Cond.code yX0_dryOil cX0_dryOil 2 none, Cond.methodLink RX0 108 Lib.Math.max.name, Cond.methodLink RX6 134 yX0_grudgeOf]
def wsX6_worst : List Cond := .code yX6_worst cX6_worst 5 (some .int) :: ((wsX6_worst_r1 ++ (wsX6_worst_r2 ++ wsX6_worst_r3)) ++ wsX60 ++ wsX20 ++ wsX00)
def wsX6_grudgeBehindWith_r1 : List Cond := [Cond.fieldLink RX6 23 "DoorsThatRemember" "trial" "LDoorsThatRemember$House;", Cond.fieldLink RX6 19 "DoorsThatRemember" "now" "LDoorsThatRemember$House;", Cond.fieldLink RX6 55 "DoorsThatRemember" "plan" "LDoorsThatRemember$Plan;", Cond.methodLink RX6 208 yX0_become, Cond.instanceMethod yX0_become, Cond.selects RX0 yX0_become yX0_become, Cond.initialized RX0, Cond.code yX0_become cX0_become 2 none, Cond.fieldLink RX0 9 "DoorsThatRemember$House" "grudges" "[I", Cond.fieldLink RX0 18 "DoorsThatRemember$House" "oilLeft" "[I", Cond.fieldLink RX0 21 "DoorsThatRemember$House" "place" "[I", Cond.fieldLink RX0 40 "DoorsThatRemember$House" "minutes" "I", Cond.fieldLink RX0 44 "DoorsThatRemember$House" "nights" "I", Cond.static yX6_copy, Cond.initialized RX6, Cond.code yX6_copy cX6_copy 3 none, Cond.methodLink RX6 215 yX6_holds, Cond.static yX6_holds, Cond.code yX6_holds cX6_holds 2 (some .boolean), Cond.methodLink RX6 152 yX6_put, Cond.static yX6_put, Cond.code yX6_put cX6_put 3 none, Cond.methodLink RX6 211 yX0_sleepAgainstOne, Cond.instanceMethod yX0_sleepAgainstOne]
def wsX6_grudgeBehindWith_r2 : List Cond := [Cond.selects RX0 yX0_sleepAgainstOne yX0_sleepAgainstOne, Cond.code yX0_sleepAgainstOne cX0_sleepAgainstOne 5 none, Cond.methodLink RX0 80 yX0_passOn, Cond.instanceMethod yX0_passOn, Cond.selects RX0 yX0_passOn yX0_passOn, Cond.code yX0_passOn cX0_passOn 6 none, Cond.fieldLink RX0 15 "DoorsThatRemember$House" "passing" "[I", Cond.static yX6_fill, Cond.code yX6_fill cX6_fill 3 none, Cond.static yX6_at, Cond.code yX6_at cX6_at 2 (some .int), Cond.methodLink RX0 55 yX0_isOiled, Cond.instanceMethod yX0_isOiled, Cond.selects RX0 yX0_isOiled yX0_isOiled, Cond.code yX0_isOiled cX0_isOiled 2 (some .boolean), Cond.methodLink RX0 59 yX0_grudgeOf, Cond.instanceMethod yX0_grudgeOf, Cond.selects RX0 yX0_grudgeOf yX0_grudgeOf, Cond.code yX0_grudgeOf cX0_grudgeOf 3 (some .int), Cond.static yX6_worn, Cond.code yX6_worn cX6_worn 2 (some .int), Cond.methodLink RX6 262 Lib.Math.max.name, Cond.static Lib.Math.max.name, Cond.initialized "java/lang/Math"]
def wsX6_grudgeBehindWith_r3 : List Cond := [Cond.code Lib.Math.max.name Lib.Math.max.code 2 (some .int), Cond.static yX6_grown, Cond.code yX6_grown cX6_grown 2 (some .int), Cond.methodLink RX6 226 Lib.Math.min.name, Cond.static Lib.Math.min.name, Cond.code Lib.Math.min.name Lib.Math.min.code 2 (some .int), Cond.methodLink RX0 73 yX0_setGrudge, Cond.instanceMethod yX0_setGrudge, Cond.selects RX0 yX0_setGrudge yX0_setGrudge, Cond.code yX0_setGrudge cX0_setGrudge 4 none, Cond.methodLink RX0 84 yX0_dryOil, Cond.instanceMethod yX0_dryOil, Cond.selects RX0 yX0_dryOil yX0_dryOil, Cond.code yX0_dryOil cX0_dryOil 2 none, Cond.methodLink RX0 108 Lib.Math.max.name, Cond.methodLink RX6 134 yX0_grudgeOf]
def wsX6_grudgeBehindWith : List Cond := .code yX6_grudgeBehindWith cX6_grudgeBehindWith 6 (some .int) :: ((wsX6_grudgeBehindWith_r1 ++ (wsX6_grudgeBehindWith_r2 ++ wsX6_grudgeBehindWith_r3)) ++ wsX60 ++ wsX20 ++ wsX00)
def wsX6_stop_r1 : List Cond := [Cond.fieldLink RX6 55 "DoorsThatRemember" "plan" "LDoorsThatRemember$Plan;", Cond.methodLink RX6 73 yX6_within, Cond.static yX6_within, Cond.initialized RX6, Cond.code yX6_within cX6_within 3 (some .boolean), Cond.methodLink RX6 98 yX6_isDoor, Cond.instanceMethod yX6_isDoor, Cond.selects RX6 yX6_isDoor yX6_isDoor, Cond.code yX6_isDoor cX6_isDoor 2 (some .boolean), Cond.methodLink RX6 122 yX6_isLodger, Cond.instanceMethod yX6_isLodger, Cond.selects RX6 yX6_isLodger yX6_isLodger, Cond.code yX6_isLodger cX6_isLodger 2 (some .boolean), Cond.methodLink RX6 188 yJ6_bitCount_0f7a4, Cond.static yJ6_bitCount_0f7a4, Cond.initialized RJ6, Cond.code yJ6_bitCount_0f7a4 cJ6_bitCount_0f7a4 1 (some .int), Cond.constant RJ6 265 (1431655765), Cond.constant RJ6 266 (858993459), Cond.constant RJ6 267 (252645135), Cond.methodLink RX6 215 yX6_holds, Cond.static yX6_holds, Cond.code yX6_holds cX6_holds 2 (some .boolean), Cond.methodLink RX6 219 yX6_grudgeBehindWith]
def wsX6_stop_r2 : List Cond := [Cond.instanceMethod yX6_grudgeBehindWith, Cond.selects RX6 yX6_grudgeBehindWith yX6_grudgeBehindWith, Cond.code yX6_grudgeBehindWith cX6_grudgeBehindWith 6 (some .int), Cond.fieldLink RX6 23 "DoorsThatRemember" "trial" "LDoorsThatRemember$House;", Cond.fieldLink RX6 19 "DoorsThatRemember" "now" "LDoorsThatRemember$House;", Cond.methodLink RX6 208 yX0_become, Cond.instanceMethod yX0_become, Cond.selects RX0 yX0_become yX0_become, Cond.initialized RX0, Cond.code yX0_become cX0_become 2 none, Cond.fieldLink RX0 9 "DoorsThatRemember$House" "grudges" "[I", Cond.fieldLink RX0 18 "DoorsThatRemember$House" "oilLeft" "[I", Cond.fieldLink RX0 21 "DoorsThatRemember$House" "place" "[I", Cond.fieldLink RX0 40 "DoorsThatRemember$House" "minutes" "I", Cond.fieldLink RX0 44 "DoorsThatRemember$House" "nights" "I", Cond.static yX6_copy, Cond.code yX6_copy cX6_copy 3 none, Cond.methodLink RX6 152 yX6_put, Cond.static yX6_put, Cond.code yX6_put cX6_put 3 none, Cond.methodLink RX6 211 yX0_sleepAgainstOne, Cond.instanceMethod yX0_sleepAgainstOne, Cond.selects RX0 yX0_sleepAgainstOne yX0_sleepAgainstOne, Cond.code yX0_sleepAgainstOne cX0_sleepAgainstOne 5 none]
def wsX6_stop_r3 : List Cond := [Cond.methodLink RX0 80 yX0_passOn, Cond.instanceMethod yX0_passOn, Cond.selects RX0 yX0_passOn yX0_passOn, Cond.code yX0_passOn cX0_passOn 6 none, Cond.fieldLink RX0 15 "DoorsThatRemember$House" "passing" "[I", Cond.static yX6_fill, Cond.code yX6_fill cX6_fill 3 none, Cond.static yX6_at, Cond.code yX6_at cX6_at 2 (some .int), Cond.methodLink RX0 55 yX0_isOiled, Cond.instanceMethod yX0_isOiled, Cond.selects RX0 yX0_isOiled yX0_isOiled, Cond.code yX0_isOiled cX0_isOiled 2 (some .boolean), Cond.methodLink RX0 59 yX0_grudgeOf, Cond.instanceMethod yX0_grudgeOf, Cond.selects RX0 yX0_grudgeOf yX0_grudgeOf, Cond.code yX0_grudgeOf cX0_grudgeOf 3 (some .int), Cond.static yX6_worn, Cond.code yX6_worn cX6_worn 2 (some .int), Cond.methodLink RX6 262 Lib.Math.max.name, Cond.static Lib.Math.max.name, Cond.initialized "java/lang/Math", Cond.code Lib.Math.max.name Lib.Math.max.code 2 (some .int), Cond.static yX6_grown]
def wsX6_stop_r4 : List Cond := [Cond.code yX6_grown cX6_grown 2 (some .int), Cond.methodLink RX6 226 Lib.Math.min.name, Cond.static Lib.Math.min.name, Cond.code Lib.Math.min.name Lib.Math.min.code 2 (some .int), Cond.methodLink RX0 73 yX0_setGrudge, Cond.instanceMethod yX0_setGrudge, Cond.selects RX0 yX0_setGrudge yX0_setGrudge, Cond.code yX0_setGrudge cX0_setGrudge 4 none, Cond.methodLink RX0 84 yX0_dryOil, Cond.instanceMethod yX0_dryOil, Cond.selects RX0 yX0_dryOil yX0_dryOil, Cond.code yX0_dryOil cX0_dryOil 2 none, Cond.methodLink RX0 108 Lib.Math.max.name, Cond.methodLink RX6 134 yX0_grudgeOf]
def wsX6_stop : List Cond := .code yX6_stop cX6_stop 9 (some .int) :: ((wsX6_stop_r1 ++ (wsX6_stop_r2 ++ (wsX6_stop_r3 ++ wsX6_stop_r4))) ++ wsX60 ++ wsX20 ++ wsX00)
def wsX6_how_r1 : List Cond := [Cond.fieldLink RX6 55 "DoorsThatRemember" "plan" "LDoorsThatRemember$Plan;", Cond.methodLink RX6 226 Lib.Math.min.name, Cond.static Lib.Math.min.name, Cond.initialized "java/lang/Math", Cond.code Lib.Math.min.name Lib.Math.min.code 2 (some .int), Cond.methodLink RX6 73 yX6_within, Cond.static yX6_within, Cond.initialized RX6, Cond.code yX6_within cX6_within 3 (some .boolean), Cond.methodLink RX6 122 yX6_isLodger, Cond.instanceMethod yX6_isLodger, Cond.selects RX6 yX6_isLodger yX6_isLodger, Cond.code yX6_isLodger cX6_isLodger 2 (some .boolean), Cond.methodLink RX6 98 yX6_isDoor, Cond.instanceMethod yX6_isDoor, Cond.selects RX6 yX6_isDoor yX6_isDoor, Cond.code yX6_isDoor cX6_isDoor 2 (some .boolean), Cond.methodLink RX6 223 yX2_grudgeAfter, Cond.instanceMethod yX2_grudgeAfter, Cond.selects RX2 yX2_grudgeAfter yX2_grudgeAfter, Cond.initialized RX2, Cond.code yX2_grudgeAfter cX2_grudgeAfter 7 (some .int), Cond.fieldLink RX2 33 "DoorsThatRemember$Plan" "firstGrudges" "[I", Cond.static yX6_at]
def wsX6_how_r2 : List Cond := [Cond.code yX6_at cX6_at 2 (some .int), Cond.static yX6_holds, Cond.code yX6_holds cX6_holds 2 (some .boolean), Cond.methodLink RX2 117 yX2_grudgeNext, Cond.instanceMethod yX2_grudgeNext, Cond.selects RX2 yX2_grudgeNext yX2_grudgeNext, Cond.code yX2_grudgeNext cX2_grudgeNext 4 (some .int), Cond.fieldLink RX2 27 "DoorsThatRemember$Plan" "temper" "[I", Cond.fieldLink RX2 46 "DoorsThatRemember$Plan" "wear" "I", Cond.static yX6_grown, Cond.code yX6_grown cX6_grown 2 (some .int), Cond.static yX6_worn, Cond.code yX6_worn cX6_worn 2 (some .int), Cond.methodLink RX6 262 Lib.Math.max.name, Cond.static Lib.Math.max.name, Cond.code Lib.Math.max.name Lib.Math.max.code 2 (some .int), Cond.methodLink RX6 188 yJ6_bitCount_0f7a4, Cond.static yJ6_bitCount_0f7a4, Cond.initialized RJ6, Cond.code yJ6_bitCount_0f7a4 cJ6_bitCount_0f7a4 1 (some .int), Cond.constant RJ6 265 (1431655765), Cond.constant RJ6 266 (858993459), Cond.constant RJ6 267 (252645135)]
def wsX6_how : List Cond := .code yX6_how cX6_how 10 (some .int) :: ((wsX6_how_r1 ++ wsX6_how_r2) ++ wsX60 ++ wsX20)
def wsX6_grudgeAgainstNew : List Cond := .code yX6_grudgeAgainstNew cX6_grudgeAgainstNew 2 (some .int) :: ([.fieldLink RX6 55 "DoorsThatRemember" "plan" "LDoorsThatRemember$Plan;", .fieldLink RX6 19 "DoorsThatRemember" "now" "LDoorsThatRemember$House;", .methodLink RX6 255 yX0_grudgesOfDoor, .instanceMethod yX0_grudgesOfDoor, .selects RX0 yX0_grudgesOfDoor yX0_grudgesOfDoor, .initialized RX0, .code yX0_grudgesOfDoor cX0_grudgesOfDoor 5 (some .int), .methodLink RX0 59 yX0_grudgeOf, .instanceMethod yX0_grudgeOf, .selects RX0 yX0_grudgeOf yX0_grudgeOf, .code yX0_grudgeOf cX0_grudgeOf 3 (some .int), .fieldLink RX0 9 "DoorsThatRemember$House" "grudges" "[I", .static yX6_at, .initialized RX6, .code yX6_at cX6_at 2 (some .int)] ++ wsX60 ++ wsX20 ++ wsX00)
def wsX6_fresh : List Cond := .code yX6_fresh cX6_fresh 4 (some .int) :: ([.fieldLink RX6 55 "DoorsThatRemember" "plan" "LDoorsThatRemember$Plan;", .methodLink RX6 98 yX6_isDoor, .instanceMethod yX6_isDoor, .selects RX6 yX6_isDoor yX6_isDoor, .initialized RX6, .code yX6_isDoor cX6_isDoor 2 (some .boolean), .methodLink RX6 231 yX6_grudgeAgainstNew, .instanceMethod yX6_grudgeAgainstNew, .selects RX6 yX6_grudgeAgainstNew yX6_grudgeAgainstNew, .code yX6_grudgeAgainstNew cX6_grudgeAgainstNew 2 (some .int), .fieldLink RX6 19 "DoorsThatRemember" "now" "LDoorsThatRemember$House;", .methodLink RX6 255 yX0_grudgesOfDoor, .instanceMethod yX0_grudgesOfDoor, .selects RX0 yX0_grudgesOfDoor yX0_grudgesOfDoor, .initialized RX0, .code yX0_grudgesOfDoor cX0_grudgesOfDoor 5 (some .int), .methodLink RX0 59 yX0_grudgeOf, .instanceMethod yX0_grudgeOf, .selects RX0 yX0_grudgeOf yX0_grudgeOf, .code yX0_grudgeOf cX0_grudgeOf 3 (some .int), .fieldLink RX0 9 "DoorsThatRemember$House" "grudges" "[I", .static yX6_at, .code yX6_at cX6_at 2 (some .int)] ++ wsX60 ++ wsX20 ++ wsX00)
def wsX6_goTo_r1 : List Cond := [Cond.fieldLink RX6 41 "DoorsThatRemember" "ways" "LDoorsThatRemember$Ways;", Cond.fieldLink RX6 55 "DoorsThatRemember" "plan" "LDoorsThatRemember$Plan;", Cond.fieldLink RX6 23 "DoorsThatRemember" "trial" "LDoorsThatRemember$House;", Cond.methodLink RX6 176 yX5_measure, Cond.instanceMethod yX5_measure, Cond.selects RX5 yX5_measure yX5_measure, Cond.initialized RX5, Cond.code yX5_measure cX5_measure 8 none, Cond.fieldLink RX5 15 "DoorsThatRemember$Ways" "price" "[I", Cond.fieldLink RX5 9 "DoorsThatRemember$Ways" "least" "[I", Cond.constant RX5 38 (1000000), Cond.static yX6_holds, Cond.initialized RX6, Cond.code yX6_holds cX6_holds 2 (some .boolean), Cond.methodLink RX5 28 yX0_minutesThrough, Cond.instanceMethod yX0_minutesThrough, Cond.selects RX0 yX0_minutesThrough yX0_minutesThrough, Cond.initialized RX0, Cond.code yX0_minutesThrough cX0_minutesThrough 3 (some .int), Cond.methodLink RX0 55 yX0_isOiled, Cond.instanceMethod yX0_isOiled, Cond.selects RX0 yX0_isOiled yX0_isOiled, Cond.code yX0_isOiled cX0_isOiled 2 (some .boolean), Cond.fieldLink RX0 18 "DoorsThatRemember$House" "oilLeft" "[I"]
def wsX6_goTo_r2 : List Cond := [Cond.static yX6_at, Cond.code yX6_at cX6_at 2 (some .int), Cond.methodLink RX0 59 yX0_grudgeOf, Cond.instanceMethod yX0_grudgeOf, Cond.selects RX0 yX0_grudgeOf yX0_grudgeOf, Cond.code yX0_grudgeOf cX0_grudgeOf 3 (some .int), Cond.fieldLink RX0 9 "DoorsThatRemember$House" "grudges" "[I", Cond.static yX6_put, Cond.code yX6_put cX6_put 3 none, Cond.static yX6_fill, Cond.code yX6_fill cX6_fill 3 none, Cond.methodLink RX5 46 yX5_shorten, Cond.instanceMethod yX5_shorten, Cond.selects RX5 yX5_shorten yX5_shorten, Cond.code yX5_shorten cX5_shorten 8 (some .boolean), Cond.methodLink RX6 106 yX6_at, Cond.methodLink RX6 184 yX5_lowestDoorFrom, Cond.instanceMethod yX5_lowestDoorFrom, Cond.selects RX5 yX5_lowestDoorFrom yX5_lowestDoorFrom, Cond.code yX5_lowestDoorFrom cX5_lowestDoorFrom 5 (some .int), Cond.methodLink RX5 60 yX5_minutesFrom, Cond.instanceMethod yX5_minutesFrom, Cond.selects RX5 yX5_minutesFrom yX5_minutesFrom, Cond.code yX5_minutesFrom cX5_minutesFrom 2 (some .int)]
def wsX6_goTo_r3 : List Cond := [Cond.methodLink RX5 64 yX2_otherSide, Cond.instanceMethod yX2_otherSide, Cond.selects RX2 yX2_otherSide yX2_otherSide, Cond.initialized RX2, Cond.code yX2_otherSide cX2_otherSide 3 (some .int), Cond.fieldLink RX2 9 "DoorsThatRemember$Plan" "sideA" "[I", Cond.fieldLink RX2 15 "DoorsThatRemember$Plan" "sideB" "[I", Cond.methodLink RX6 145 yX0_passThrough, Cond.instanceMethod yX0_passThrough, Cond.selects RX0 yX0_passThrough yX0_passThrough, Cond.code yX0_passThrough cX0_passThrough 6 (some .int), Cond.fieldLink RX0 40 "DoorsThatRemember$House" "minutes" "I", Cond.fieldLink RX0 21 "DoorsThatRemember$House" "place" "[I", Cond.methodLink RX0 63 yX0_minutesThrough, Cond.methodLink RX0 66 yX2_otherSide, Cond.methodLink RX0 69 yX2_grudgeNext, Cond.instanceMethod yX2_grudgeNext, Cond.selects RX2 yX2_grudgeNext yX2_grudgeNext, Cond.code yX2_grudgeNext cX2_grudgeNext 4 (some .int), Cond.fieldLink RX2 27 "DoorsThatRemember$Plan" "temper" "[I", Cond.fieldLink RX2 46 "DoorsThatRemember$Plan" "wear" "I", Cond.static yX6_grown, Cond.code yX6_grown cX6_grown 2 (some .int), Cond.methodLink RX6 226 Lib.Math.min.name]
def wsX6_goTo_r4 : List Cond := [Cond.static Lib.Math.min.name, Cond.initialized "java/lang/Math", Cond.code Lib.Math.min.name Lib.Math.min.code 2 (some .int), Cond.static yX6_worn, Cond.code yX6_worn cX6_worn 2 (some .int), Cond.methodLink RX6 262 Lib.Math.max.name, Cond.static Lib.Math.max.name, Cond.code Lib.Math.max.name Lib.Math.max.code 2 (some .int), Cond.methodLink RX0 73 yX0_setGrudge, Cond.instanceMethod yX0_setGrudge, Cond.selects RX0 yX0_setGrudge yX0_setGrudge, Cond.code yX0_setGrudge cX0_setGrudge 4 none]
def wsX6_goTo : List Cond := .code yX6_goTo cX6_goTo 6 none :: ((wsX6_goTo_r1 ++ (wsX6_goTo_r2 ++ (wsX6_goTo_r3 ++ wsX6_goTo_r4))) ++ wsX60 ++ wsX00 ++ wsX20 ++ wsX50)
def wsX6_goThereAndBack_r1 : List Cond := [Cond.fieldLink RX6 55 "DoorsThatRemember" "plan" "LDoorsThatRemember$Plan;", Cond.fieldLink RX6 23 "DoorsThatRemember" "trial" "LDoorsThatRemember$House;", Cond.methodLink RX6 106 yX6_at, Cond.static yX6_at, Cond.initialized RX6, Cond.code yX6_at cX6_at 2 (some .int), Cond.methodLink RX6 258 yX6_goTo, Cond.instanceMethod yX6_goTo, Cond.selects RX6 yX6_goTo yX6_goTo, Cond.code yX6_goTo cX6_goTo 6 none, Cond.fieldLink RX6 41 "DoorsThatRemember" "ways" "LDoorsThatRemember$Ways;", Cond.methodLink RX6 176 yX5_measure, Cond.instanceMethod yX5_measure, Cond.selects RX5 yX5_measure yX5_measure, Cond.initialized RX5, Cond.code yX5_measure cX5_measure 8 none, Cond.fieldLink RX5 15 "DoorsThatRemember$Ways" "price" "[I", Cond.fieldLink RX5 9 "DoorsThatRemember$Ways" "least" "[I", Cond.constant RX5 38 (1000000), Cond.static yX6_holds, Cond.code yX6_holds cX6_holds 2 (some .boolean), Cond.methodLink RX5 28 yX0_minutesThrough, Cond.instanceMethod yX0_minutesThrough, Cond.selects RX0 yX0_minutesThrough yX0_minutesThrough]
def wsX6_goThereAndBack_r2 : List Cond := [Cond.initialized RX0, Cond.code yX0_minutesThrough cX0_minutesThrough 3 (some .int), Cond.methodLink RX0 55 yX0_isOiled, Cond.instanceMethod yX0_isOiled, Cond.selects RX0 yX0_isOiled yX0_isOiled, Cond.code yX0_isOiled cX0_isOiled 2 (some .boolean), Cond.fieldLink RX0 18 "DoorsThatRemember$House" "oilLeft" "[I", Cond.methodLink RX0 59 yX0_grudgeOf, Cond.instanceMethod yX0_grudgeOf, Cond.selects RX0 yX0_grudgeOf yX0_grudgeOf, Cond.code yX0_grudgeOf cX0_grudgeOf 3 (some .int), Cond.fieldLink RX0 9 "DoorsThatRemember$House" "grudges" "[I", Cond.static yX6_put, Cond.code yX6_put cX6_put 3 none, Cond.static yX6_fill, Cond.code yX6_fill cX6_fill 3 none, Cond.methodLink RX5 46 yX5_shorten, Cond.instanceMethod yX5_shorten, Cond.selects RX5 yX5_shorten yX5_shorten, Cond.code yX5_shorten cX5_shorten 8 (some .boolean), Cond.methodLink RX6 184 yX5_lowestDoorFrom, Cond.instanceMethod yX5_lowestDoorFrom, Cond.selects RX5 yX5_lowestDoorFrom yX5_lowestDoorFrom, Cond.code yX5_lowestDoorFrom cX5_lowestDoorFrom 5 (some .int)]
def wsX6_goThereAndBack_r3 : List Cond := [Cond.methodLink RX5 60 yX5_minutesFrom, Cond.instanceMethod yX5_minutesFrom, Cond.selects RX5 yX5_minutesFrom yX5_minutesFrom, Cond.code yX5_minutesFrom cX5_minutesFrom 2 (some .int), Cond.methodLink RX5 64 yX2_otherSide, Cond.instanceMethod yX2_otherSide, Cond.selects RX2 yX2_otherSide yX2_otherSide, Cond.initialized RX2, Cond.code yX2_otherSide cX2_otherSide 3 (some .int), Cond.fieldLink RX2 9 "DoorsThatRemember$Plan" "sideA" "[I", Cond.fieldLink RX2 15 "DoorsThatRemember$Plan" "sideB" "[I", Cond.methodLink RX6 145 yX0_passThrough, Cond.instanceMethod yX0_passThrough, Cond.selects RX0 yX0_passThrough yX0_passThrough, Cond.code yX0_passThrough cX0_passThrough 6 (some .int), Cond.fieldLink RX0 40 "DoorsThatRemember$House" "minutes" "I", Cond.fieldLink RX0 21 "DoorsThatRemember$House" "place" "[I", Cond.methodLink RX0 63 yX0_minutesThrough, Cond.methodLink RX0 66 yX2_otherSide, Cond.methodLink RX0 69 yX2_grudgeNext, Cond.instanceMethod yX2_grudgeNext, Cond.selects RX2 yX2_grudgeNext yX2_grudgeNext, Cond.code yX2_grudgeNext cX2_grudgeNext 4 (some .int), Cond.fieldLink RX2 27 "DoorsThatRemember$Plan" "temper" "[I"]
def wsX6_goThereAndBack_r4 : List Cond := [Cond.fieldLink RX2 46 "DoorsThatRemember$Plan" "wear" "I", Cond.static yX6_grown, Cond.code yX6_grown cX6_grown 2 (some .int), Cond.methodLink RX6 226 Lib.Math.min.name, Cond.static Lib.Math.min.name, Cond.initialized "java/lang/Math", Cond.code Lib.Math.min.name Lib.Math.min.code 2 (some .int), Cond.static yX6_worn, Cond.code yX6_worn cX6_worn 2 (some .int), Cond.methodLink RX6 262 Lib.Math.max.name, Cond.static Lib.Math.max.name, Cond.code Lib.Math.max.name Lib.Math.max.code 2 (some .int), Cond.methodLink RX0 73 yX0_setGrudge, Cond.instanceMethod yX0_setGrudge, Cond.selects RX0 yX0_setGrudge yX0_setGrudge, Cond.code yX0_setGrudge cX0_setGrudge 4 none]
def wsX6_goThereAndBack : List Cond := .code yX6_goThereAndBack cX6_goThereAndBack 5 none :: ((wsX6_goThereAndBack_r1 ++ (wsX6_goThereAndBack_r2 ++ (wsX6_goThereAndBack_r3 ++ wsX6_goThereAndBack_r4))) ++ wsX60 ++ wsX20 ++ wsX00 ++ wsX50)
def wsX6_week_r1 : List Cond := [Cond.fieldLink RX6 23 "DoorsThatRemember" "trial" "LDoorsThatRemember$House;", Cond.fieldLink RX6 19 "DoorsThatRemember" "now" "LDoorsThatRemember$House;", Cond.constantLong RX6 234 (7919), Cond.constantLong RX6 236 (6151), Cond.constantLong RX6 238 (65521), Cond.fieldLink RX6 55 "DoorsThatRemember" "plan" "LDoorsThatRemember$Plan;", Cond.methodLink RX6 73 yX6_within, Cond.static yX6_within, Cond.initialized RX6, Cond.code yX6_within cX6_within 3 (some .boolean), Cond.methodLink RX6 208 yX0_become, Cond.instanceMethod yX0_become, Cond.selects RX0 yX0_become yX0_become, Cond.initialized RX0, Cond.code yX0_become cX0_become 2 none, Cond.fieldLink RX0 9 "DoorsThatRemember$House" "grudges" "[I", Cond.fieldLink RX0 18 "DoorsThatRemember$House" "oilLeft" "[I", Cond.fieldLink RX0 21 "DoorsThatRemember$House" "place" "[I", Cond.fieldLink RX0 40 "DoorsThatRemember$House" "minutes" "I", Cond.fieldLink RX0 44 "DoorsThatRemember$House" "nights" "I", Cond.static yX6_copy, Cond.code yX6_copy cX6_copy 3 none, Cond.methodLink RX6 240 yX6_goThereAndBack, Cond.instanceMethod yX6_goThereAndBack]
def wsX6_week_r2 : List Cond := [Cond.selects RX6 yX6_goThereAndBack yX6_goThereAndBack, Cond.code yX6_goThereAndBack cX6_goThereAndBack 5 none, Cond.methodLink RX6 106 yX6_at, Cond.static yX6_at, Cond.code yX6_at cX6_at 2 (some .int), Cond.methodLink RX6 258 yX6_goTo, Cond.instanceMethod yX6_goTo, Cond.selects RX6 yX6_goTo yX6_goTo, Cond.code yX6_goTo cX6_goTo 6 none, Cond.fieldLink RX6 41 "DoorsThatRemember" "ways" "LDoorsThatRemember$Ways;", Cond.methodLink RX6 176 yX5_measure, Cond.instanceMethod yX5_measure, Cond.selects RX5 yX5_measure yX5_measure, Cond.initialized RX5, Cond.code yX5_measure cX5_measure 8 none, Cond.fieldLink RX5 15 "DoorsThatRemember$Ways" "price" "[I", Cond.fieldLink RX5 9 "DoorsThatRemember$Ways" "least" "[I", Cond.constant RX5 38 (1000000), Cond.static yX6_holds, Cond.code yX6_holds cX6_holds 2 (some .boolean), Cond.methodLink RX5 28 yX0_minutesThrough, Cond.instanceMethod yX0_minutesThrough, Cond.selects RX0 yX0_minutesThrough yX0_minutesThrough, Cond.code yX0_minutesThrough cX0_minutesThrough 3 (some .int)]
def wsX6_week_r3 : List Cond := [Cond.methodLink RX0 55 yX0_isOiled, Cond.instanceMethod yX0_isOiled, Cond.selects RX0 yX0_isOiled yX0_isOiled, Cond.code yX0_isOiled cX0_isOiled 2 (some .boolean), Cond.methodLink RX0 59 yX0_grudgeOf, Cond.instanceMethod yX0_grudgeOf, Cond.selects RX0 yX0_grudgeOf yX0_grudgeOf, Cond.code yX0_grudgeOf cX0_grudgeOf 3 (some .int), Cond.static yX6_put, Cond.code yX6_put cX6_put 3 none, Cond.static yX6_fill, Cond.code yX6_fill cX6_fill 3 none, Cond.methodLink RX5 46 yX5_shorten, Cond.instanceMethod yX5_shorten, Cond.selects RX5 yX5_shorten yX5_shorten, Cond.code yX5_shorten cX5_shorten 8 (some .boolean), Cond.methodLink RX6 184 yX5_lowestDoorFrom, Cond.instanceMethod yX5_lowestDoorFrom, Cond.selects RX5 yX5_lowestDoorFrom yX5_lowestDoorFrom, Cond.code yX5_lowestDoorFrom cX5_lowestDoorFrom 5 (some .int), Cond.methodLink RX5 60 yX5_minutesFrom, Cond.instanceMethod yX5_minutesFrom, Cond.selects RX5 yX5_minutesFrom yX5_minutesFrom, Cond.code yX5_minutesFrom cX5_minutesFrom 2 (some .int)]
def wsX6_week_r4 : List Cond := [Cond.methodLink RX5 64 yX2_otherSide, Cond.instanceMethod yX2_otherSide, Cond.selects RX2 yX2_otherSide yX2_otherSide, Cond.initialized RX2, Cond.code yX2_otherSide cX2_otherSide 3 (some .int), Cond.fieldLink RX2 9 "DoorsThatRemember$Plan" "sideA" "[I", Cond.fieldLink RX2 15 "DoorsThatRemember$Plan" "sideB" "[I", Cond.methodLink RX6 145 yX0_passThrough, Cond.instanceMethod yX0_passThrough, Cond.selects RX0 yX0_passThrough yX0_passThrough, Cond.code yX0_passThrough cX0_passThrough 6 (some .int), Cond.methodLink RX0 63 yX0_minutesThrough, Cond.methodLink RX0 66 yX2_otherSide, Cond.methodLink RX0 69 yX2_grudgeNext, Cond.instanceMethod yX2_grudgeNext, Cond.selects RX2 yX2_grudgeNext yX2_grudgeNext, Cond.code yX2_grudgeNext cX2_grudgeNext 4 (some .int), Cond.fieldLink RX2 27 "DoorsThatRemember$Plan" "temper" "[I", Cond.fieldLink RX2 46 "DoorsThatRemember$Plan" "wear" "I", Cond.static yX6_grown, Cond.code yX6_grown cX6_grown 2 (some .int), Cond.methodLink RX6 226 Lib.Math.min.name, Cond.static Lib.Math.min.name, Cond.initialized "java/lang/Math"]
def wsX6_week_r5 : List Cond := [Cond.code Lib.Math.min.name Lib.Math.min.code 2 (some .int), Cond.static yX6_worn, Cond.code yX6_worn cX6_worn 2 (some .int), Cond.methodLink RX6 262 Lib.Math.max.name, Cond.static Lib.Math.max.name, Cond.code Lib.Math.max.name Lib.Math.max.code 2 (some .int), Cond.methodLink RX0 73 yX0_setGrudge, Cond.instanceMethod yX0_setGrudge, Cond.selects RX0 yX0_setGrudge yX0_setGrudge, Cond.code yX0_setGrudge cX0_setGrudge 4 none, Cond.methodLink RX6 163 yX0_sleep, Cond.instanceMethod yX0_sleep, Cond.selects RX0 yX0_sleep yX0_sleep, Cond.code yX0_sleep cX0_sleep 3 none, Cond.methodLink RX0 80 yX0_passOn, Cond.instanceMethod yX0_passOn, Cond.selects RX0 yX0_passOn yX0_passOn, Cond.code yX0_passOn cX0_passOn 6 none, Cond.fieldLink RX0 15 "DoorsThatRemember$House" "passing" "[I", Cond.methodLink RX0 84 yX0_dryOil, Cond.instanceMethod yX0_dryOil, Cond.selects RX0 yX0_dryOil yX0_dryOil, Cond.code yX0_dryOil cX0_dryOil 2 none, Cond.methodLink RX0 108 Lib.Math.max.name]
def wsX6_week_r6 : List Cond := [Cond.methodLink RX6 246 yX0_allGrudges, Cond.instanceMethod yX0_allGrudges, Cond.selects RX0 yX0_allGrudges yX0_allGrudges, Cond.code yX0_allGrudges cX0_allGrudges 4 (some .int), Cond.methodLink RX0 113 yX0_grudgesOfDoor, Cond.instanceMethod yX0_grudgesOfDoor, Cond.selects RX0 yX0_grudgesOfDoor yX0_grudgesOfDoor, Cond.code yX0_grudgesOfDoor cX0_grudgesOfDoor 5 (some .int)]
def wsX6_week : List Cond := .code yX6_week cX6_week 7 (some .int) :: ((wsX6_week_r1 ++ (wsX6_week_r2 ++ (wsX6_week_r3 ++ (wsX6_week_r4 ++ (wsX6_week_r5 ++ wsX6_week_r6))))) ++ wsX60 ++ wsX00 ++ wsX20 ++ wsX50)
def wsX6_keep_r1 : List Cond := [Cond.fieldLink RX6 35 "DoorsThatRemember" "kept" "LDoorsThatRemember$Past;", Cond.fieldLink RX6 19 "DoorsThatRemember" "now" "LDoorsThatRemember$House;", Cond.methodLink RX6 141 yX1_push, Cond.instanceMethod yX1_push, Cond.selects RX1 yX1_push yX1_push, Cond.initialized RX1, Cond.code yX1_push cX1_push 3 none, Cond.fieldLink RX1 22 "DoorsThatRemember$Past" "size" "I", Cond.fieldLink RX1 15 "DoorsThatRemember$Past" "slots" "[LDoorsThatRemember$House;", Cond.methodLink RX1 26 yX1_dropOldest, Cond.instanceMethod yX1_dropOldest, Cond.selects RX1 yX1_dropOldest yX1_dropOldest, Cond.code yX1_dropOldest cX1_dropOldest 3 none, Cond.methodLink RX1 29 yX1_slotAt, Cond.instanceMethod yX1_slotAt, Cond.selects RX1 yX1_slotAt yX1_slotAt, Cond.code yX1_slotAt cX1_slotAt 2 (some (.object "DoorsThatRemember$House")), Cond.methodLink RX1 33 yX0_become, Cond.instanceMethod yX0_become, Cond.selects RX0 yX0_become yX0_become, Cond.initialized RX0, Cond.code yX0_become cX0_become 2 none, Cond.fieldLink RX0 9 "DoorsThatRemember$House" "grudges" "[I", Cond.fieldLink RX0 18 "DoorsThatRemember$House" "oilLeft" "[I"]
def wsX6_keep_r2 : List Cond := [Cond.fieldLink RX0 21 "DoorsThatRemember$House" "place" "[I", Cond.fieldLink RX0 40 "DoorsThatRemember$House" "minutes" "I", Cond.fieldLink RX0 44 "DoorsThatRemember$House" "nights" "I", Cond.static yX6_copy, Cond.initialized RX6, Cond.code yX6_copy cX6_copy 3 none]
def wsX6_keep : List Cond := .code yX6_keep cX6_keep 1 (some .int) :: ((wsX6_keep_r1 ++ wsX6_keep_r2) ++ wsX60 ++ wsX10 ++ wsX00)
def wsX6_back_r1 : List Cond := [Cond.fieldLink RX6 35 "DoorsThatRemember" "kept" "LDoorsThatRemember$Past;", Cond.fieldLink RX6 19 "DoorsThatRemember" "now" "LDoorsThatRemember$House;", Cond.fieldLink RX6 31 "DoorsThatRemember" "undone" "LDoorsThatRemember$Past;", Cond.methodLink RX6 166 yX1_pop, Cond.instanceMethod yX1_pop, Cond.selects RX1 yX1_pop yX1_pop, Cond.initialized RX1, Cond.code yX1_pop cX1_pop 3 (some .boolean), Cond.fieldLink RX1 22 "DoorsThatRemember$Past" "size" "I", Cond.methodLink RX1 29 yX1_slotAt, Cond.instanceMethod yX1_slotAt, Cond.selects RX1 yX1_slotAt yX1_slotAt, Cond.code yX1_slotAt cX1_slotAt 2 (some (.object "DoorsThatRemember$House")), Cond.fieldLink RX1 15 "DoorsThatRemember$Past" "slots" "[LDoorsThatRemember$House;", Cond.methodLink RX1 33 yX0_become, Cond.instanceMethod yX0_become, Cond.selects RX0 yX0_become yX0_become, Cond.initialized RX0, Cond.code yX0_become cX0_become 2 none, Cond.fieldLink RX0 9 "DoorsThatRemember$House" "grudges" "[I", Cond.fieldLink RX0 18 "DoorsThatRemember$House" "oilLeft" "[I", Cond.fieldLink RX0 21 "DoorsThatRemember$House" "place" "[I", Cond.fieldLink RX0 40 "DoorsThatRemember$House" "minutes" "I", Cond.fieldLink RX0 44 "DoorsThatRemember$House" "nights" "I"]
def wsX6_back_r2 : List Cond := [Cond.static yX6_copy, Cond.initialized RX6, Cond.code yX6_copy cX6_copy 3 none, Cond.methodLink RX6 92 yX1_forgetAll, Cond.instanceMethod yX1_forgetAll, Cond.selects RX1 yX1_forgetAll yX1_forgetAll, Cond.code yX1_forgetAll cX1_forgetAll 1 none]
def wsX6_back : List Cond := .code yX6_back cX6_back 1 (some .int) :: ((wsX6_back_r1 ++ wsX6_back_r2) ++ wsX60 ++ wsX10 ++ wsX00)
def wsX6_count : List Cond := .code yX6_count cX6_count 2 (some .int) :: ([.fieldLink RX6 55 "DoorsThatRemember" "plan" "LDoorsThatRemember$Plan;", .fieldLink RX6 19 "DoorsThatRemember" "now" "LDoorsThatRemember$House;", .fieldLink RX6 31 "DoorsThatRemember" "undone" "LDoorsThatRemember$Past;", .fieldLink RX6 35 "DoorsThatRemember" "kept" "LDoorsThatRemember$Past;", .fieldLink RX6 10 "DoorsThatRemember" "text" "LDoorsThatRemember$Text;"] ++ wsX60 ++ wsX20 ++ wsX00 ++ wsX10 ++ wsX40)
def wsX7_begins : List Cond := .code yX7_begins cX7_begins 2 none :: ([.fieldLink RX7 13 "DoorsThatRememberModel" "told" "[I", .fieldLink RX7 17 "DoorsThatRememberModel" "doors" "[I", .fieldLink RX7 26 "DoorsThatRememberModel" "lodgers" "[I", .fieldLink RX7 32 "DoorsThatRememberModel" "first" "[I", .fieldLink RX7 23 "DoorsThatRememberModel" "draught" "[I"] ++ wsX70)
def wsX7_takes : List Cond := .code yX7_takes cX7_takes 2 none :: ([.fieldLink RX7 17 "DoorsThatRememberModel" "doors" "[I", .fieldLink RX7 26 "DoorsThatRememberModel" "lodgers" "[I", .fieldLink RX7 32 "DoorsThatRememberModel" "first" "[I", .fieldLink RX7 20 "DoorsThatRememberModel" "door" "[I", .fieldLink RX7 29 "DoorsThatRememberModel" "lodger" "[I", .fieldLink RX7 23 "DoorsThatRememberModel" "draught" "[I", .fieldLink RX7 13 "DoorsThatRememberModel" "told" "[I", .fieldLink RX7 35 "DoorsThatRememberModel" "slot" "[I", .fieldLink RX7 103 "DoorsThatRememberModel" "done" "I", .fieldLink RX7 106 "DoorsThatRememberModel" "kept" "I"] ++ wsX70)
def wsX7_init_r1 : List Cond := [Cond.methodLink RX7 1 objectInit, Cond.instanceMethod objectInit, Cond.code objectInit ⟨#[0xb1]⟩ 1 none, Cond.arrayClass .byte, Cond.fieldLink RX7 7 "DoorsThatRememberModel" "text" "[B", Cond.arrayClass .int, Cond.fieldLink RX7 13 "DoorsThatRememberModel" "told" "[I", Cond.fieldLink RX7 17 "DoorsThatRememberModel" "doors" "[I", Cond.fieldLink RX7 20 "DoorsThatRememberModel" "door" "[I", Cond.fieldLink RX7 23 "DoorsThatRememberModel" "draught" "[I", Cond.fieldLink RX7 26 "DoorsThatRememberModel" "lodgers" "[I", Cond.fieldLink RX7 29 "DoorsThatRememberModel" "lodger" "[I", Cond.fieldLink RX7 32 "DoorsThatRememberModel" "first" "[I", Cond.fieldLink RX7 35 "DoorsThatRememberModel" "slot" "[I", Cond.fieldLink RX7 38 "DoorsThatRememberModel" "was" "[I", Cond.fieldLink RX7 41 "DoorsThatRememberModel" "far" "[I", Cond.fieldLink RX7 44 "DoorsThatRememberModel" "row" "[I", Cond.fieldLink RX7 47 "DoorsThatRememberModel" "best" "[I", Cond.fieldLink RX7 50 "DoorsThatRememberModel" "got" "[I", Cond.methodLink RX7 53 yX7_begins, Cond.instanceMethod yX7_begins, Cond.selects RX7 yX7_begins yX7_begins, Cond.initialized RX7, Cond.code yX7_begins cX7_begins 2 none]
def wsX7_init_r2 : List Cond := [Cond.methodLink RX7 56 yX7_takes, Cond.instanceMethod yX7_takes, Cond.selects RX7 yX7_takes yX7_takes, Cond.code yX7_takes cX7_takes 2 none, Cond.fieldLink RX7 103 "DoorsThatRememberModel" "done" "I", Cond.fieldLink RX7 106 "DoorsThatRememberModel" "kept" "I"]
def wsX7_init : List Cond := .code yX7_init cX7_init 1 none :: ((wsX7_init_r1 ++ wsX7_init_r2) ++ wsX70)
def wsX7_in : List Cond := .code yX7_in cX7_in 6 (some .boolean) :: ([])
def wsX7_write : List Cond := .code yX7_write cX7_write 5 (some .int) :: ([.constantLong RX7 59 (8), .fieldLink RX7 65 "DoorsThatRememberModel" "length" "I", .fieldLink RX7 7 "DoorsThatRememberModel" "text" "[B", .methodLink RX7 61 yX7_in, .static yX7_in, .initialized RX7, .code yX7_in cX7_in 6 (some .boolean)] ++ wsX70)
def wsX7_wipe : List Cond := .code yX7_wipe cX7_wipe 2 (some .int) :: ([.fieldLink RX7 65 "DoorsThatRememberModel" "length" "I"] ++ wsX70)
def wsX7_number : List Cond := .code yX7_number cX7_number 3 (some .int) :: ([.fieldLink RX7 69 "DoorsThatRememberModel" "at" "I", .fieldLink RX7 65 "DoorsThatRememberModel" "length" "I", .fieldLink RX7 7 "DoorsThatRememberModel" "text" "[B", .constantLong RX7 72 (48), .constantLong RX7 74 (57), .constantLong RX7 76 (2), .methodLink RX7 61 yX7_in, .static yX7_in, .initialized RX7, .code yX7_in cX7_in 6 (some .boolean)] ++ wsX70)
def wsX7_numbers : List Cond := .code yX7_numbers cX7_numbers 1 (some .int) :: ([])
def wsX7_isDoorPut : List Cond := .code yX7_isDoorPut cX7_isDoorPut 2 (some .boolean) :: ([.fieldLink RX7 20 "DoorsThatRememberModel" "door" "[I", .fieldLink RX7 17 "DoorsThatRememberModel" "doors" "[I", .fieldLink RX7 50 "DoorsThatRememberModel" "got" "[I"] ++ wsX70)
def wsX7_isLodgerPut : List Cond := .code yX7_isLodgerPut cX7_isLodgerPut 2 (some .boolean) :: ([.fieldLink RX7 29 "DoorsThatRememberModel" "lodger" "[I", .fieldLink RX7 26 "DoorsThatRememberModel" "lodgers" "[I", .fieldLink RX7 50 "DoorsThatRememberModel" "got" "[I"] ++ wsX70)
def wsX7_isGood : List Cond := .code yX7_isGood cX7_isGood 5 (some .boolean) :: ([.fieldLink RX7 50 "DoorsThatRememberModel" "got" "[I", .fieldLink RX7 13 "DoorsThatRememberModel" "told" "[I", .constantLong RX7 76 (2), .constantLong RX7 90 (6), .fieldLink RX7 17 "DoorsThatRememberModel" "doors" "[I", .constantLong RX7 96 (20), .fieldLink RX7 26 "DoorsThatRememberModel" "lodgers" "[I", .fieldLink RX7 32 "DoorsThatRememberModel" "first" "[I", .constantLong RX7 101 (9), .fieldLink RX7 23 "DoorsThatRememberModel" "draught" "[I", .methodLink RX7 61 yX7_in, .static yX7_in, .initialized RX7, .code yX7_in cX7_in 6 (some .boolean), .methodLink RX7 92 yX7_isDoorPut, .instanceMethod yX7_isDoorPut, .selects RX7 yX7_isDoorPut yX7_isDoorPut, .code yX7_isDoorPut cX7_isDoorPut 2 (some .boolean), .fieldLink RX7 20 "DoorsThatRememberModel" "door" "[I", .methodLink RX7 98 yX7_isLodgerPut, .instanceMethod yX7_isLodgerPut, .selects RX7 yX7_isLodgerPut yX7_isLodgerPut, .code yX7_isLodgerPut cX7_isLodgerPut 2 (some .boolean), .fieldLink RX7 29 "DoorsThatRememberModel" "lodger" "[I"] ++ wsX70)
def wsX7_isItem_r1 : List Cond := [Cond.fieldLink RX7 7 "DoorsThatRememberModel" "text" "[B", Cond.fieldLink RX7 69 "DoorsThatRememberModel" "at" "I", Cond.fieldLink RX7 65 "DoorsThatRememberModel" "length" "I", Cond.fieldLink RX7 50 "DoorsThatRememberModel" "got" "[I", Cond.methodLink RX7 78 yX7_numbers, Cond.static yX7_numbers, Cond.initialized RX7, Cond.code yX7_numbers cX7_numbers 1 (some .int), Cond.methodLink RX7 82 yX7_number, Cond.instanceMethod yX7_number, Cond.selects RX7 yX7_number yX7_number, Cond.code yX7_number cX7_number 3 (some .int), Cond.constantLong RX7 72 (48), Cond.constantLong RX7 74 (57), Cond.constantLong RX7 76 (2), Cond.methodLink RX7 61 yX7_in, Cond.static yX7_in, Cond.code yX7_in cX7_in 6 (some .boolean), Cond.methodLink RX7 86 yX7_isGood, Cond.instanceMethod yX7_isGood, Cond.selects RX7 yX7_isGood yX7_isGood, Cond.code yX7_isGood cX7_isGood 5 (some .boolean), Cond.fieldLink RX7 13 "DoorsThatRememberModel" "told" "[I", Cond.constantLong RX7 90 (6)]
def wsX7_isItem_r2 : List Cond := [Cond.fieldLink RX7 17 "DoorsThatRememberModel" "doors" "[I", Cond.constantLong RX7 96 (20), Cond.fieldLink RX7 26 "DoorsThatRememberModel" "lodgers" "[I", Cond.fieldLink RX7 32 "DoorsThatRememberModel" "first" "[I", Cond.constantLong RX7 101 (9), Cond.fieldLink RX7 23 "DoorsThatRememberModel" "draught" "[I", Cond.methodLink RX7 92 yX7_isDoorPut, Cond.instanceMethod yX7_isDoorPut, Cond.selects RX7 yX7_isDoorPut yX7_isDoorPut, Cond.code yX7_isDoorPut cX7_isDoorPut 2 (some .boolean), Cond.fieldLink RX7 20 "DoorsThatRememberModel" "door" "[I", Cond.methodLink RX7 98 yX7_isLodgerPut, Cond.instanceMethod yX7_isLodgerPut, Cond.selects RX7 yX7_isLodgerPut yX7_isLodgerPut, Cond.code yX7_isLodgerPut cX7_isLodgerPut 2 (some .boolean), Cond.fieldLink RX7 29 "DoorsThatRememberModel" "lodger" "[I"]
def wsX7_isItem : List Cond := .code yX7_isItem cX7_isItem 5 (some .boolean) :: ((wsX7_isItem_r1 ++ wsX7_isItem_r2) ++ wsX70)
def wsX7_fault_r1 : List Cond := [Cond.fieldLink RX7 69 "DoorsThatRememberModel" "at" "I", Cond.fieldLink RX7 65 "DoorsThatRememberModel" "length" "I", Cond.methodLink RX7 53 yX7_begins, Cond.instanceMethod yX7_begins, Cond.selects RX7 yX7_begins yX7_begins, Cond.initialized RX7, Cond.code yX7_begins cX7_begins 2 none, Cond.fieldLink RX7 13 "DoorsThatRememberModel" "told" "[I", Cond.fieldLink RX7 17 "DoorsThatRememberModel" "doors" "[I", Cond.fieldLink RX7 26 "DoorsThatRememberModel" "lodgers" "[I", Cond.fieldLink RX7 32 "DoorsThatRememberModel" "first" "[I", Cond.fieldLink RX7 23 "DoorsThatRememberModel" "draught" "[I", Cond.methodLink RX7 109 yX7_isItem, Cond.instanceMethod yX7_isItem, Cond.selects RX7 yX7_isItem yX7_isItem, Cond.code yX7_isItem cX7_isItem 5 (some .boolean), Cond.fieldLink RX7 7 "DoorsThatRememberModel" "text" "[B", Cond.fieldLink RX7 50 "DoorsThatRememberModel" "got" "[I", Cond.methodLink RX7 78 yX7_numbers, Cond.static yX7_numbers, Cond.code yX7_numbers cX7_numbers 1 (some .int), Cond.methodLink RX7 82 yX7_number, Cond.instanceMethod yX7_number, Cond.selects RX7 yX7_number yX7_number]
def wsX7_fault_r2 : List Cond := [Cond.code yX7_number cX7_number 3 (some .int), Cond.constantLong RX7 72 (48), Cond.constantLong RX7 74 (57), Cond.constantLong RX7 76 (2), Cond.methodLink RX7 61 yX7_in, Cond.static yX7_in, Cond.code yX7_in cX7_in 6 (some .boolean), Cond.methodLink RX7 86 yX7_isGood, Cond.instanceMethod yX7_isGood, Cond.selects RX7 yX7_isGood yX7_isGood, Cond.code yX7_isGood cX7_isGood 5 (some .boolean), Cond.constantLong RX7 90 (6), Cond.constantLong RX7 96 (20), Cond.constantLong RX7 101 (9), Cond.methodLink RX7 92 yX7_isDoorPut, Cond.instanceMethod yX7_isDoorPut, Cond.selects RX7 yX7_isDoorPut yX7_isDoorPut, Cond.code yX7_isDoorPut cX7_isDoorPut 2 (some .boolean), Cond.fieldLink RX7 20 "DoorsThatRememberModel" "door" "[I", Cond.methodLink RX7 98 yX7_isLodgerPut, Cond.instanceMethod yX7_isLodgerPut, Cond.selects RX7 yX7_isLodgerPut yX7_isLodgerPut, Cond.code yX7_isLodgerPut cX7_isLodgerPut 2 (some .boolean), Cond.fieldLink RX7 29 "DoorsThatRememberModel" "lodger" "[I"]
def wsX7_fault : List Cond := .code yX7_fault cX7_fault 2 (some .int) :: ((wsX7_fault_r1 ++ wsX7_fault_r2) ++ wsX70)
def wsX7_isWhole : List Cond := .code yX7_isWhole cX7_isWhole 3 (some .boolean) :: ([.fieldLink RX7 17 "DoorsThatRememberModel" "doors" "[I", .fieldLink RX7 26 "DoorsThatRememberModel" "lodgers" "[I", .fieldLink RX7 20 "DoorsThatRememberModel" "door" "[I", .fieldLink RX7 13 "DoorsThatRememberModel" "told" "[I", .fieldLink RX7 29 "DoorsThatRememberModel" "lodger" "[I"] ++ wsX70)
def wsX7_lay_r1 : List Cond := [Cond.fieldLink RX7 17 "DoorsThatRememberModel" "doors" "[I", Cond.methodLink RX7 112 yX7_fault, Cond.instanceMethod yX7_fault, Cond.selects RX7 yX7_fault yX7_fault, Cond.initialized RX7, Cond.code yX7_fault cX7_fault 2 (some .int), Cond.fieldLink RX7 69 "DoorsThatRememberModel" "at" "I", Cond.fieldLink RX7 65 "DoorsThatRememberModel" "length" "I", Cond.methodLink RX7 53 yX7_begins, Cond.instanceMethod yX7_begins, Cond.selects RX7 yX7_begins yX7_begins, Cond.code yX7_begins cX7_begins 2 none, Cond.fieldLink RX7 13 "DoorsThatRememberModel" "told" "[I", Cond.fieldLink RX7 26 "DoorsThatRememberModel" "lodgers" "[I", Cond.fieldLink RX7 32 "DoorsThatRememberModel" "first" "[I", Cond.fieldLink RX7 23 "DoorsThatRememberModel" "draught" "[I", Cond.methodLink RX7 109 yX7_isItem, Cond.instanceMethod yX7_isItem, Cond.selects RX7 yX7_isItem yX7_isItem, Cond.code yX7_isItem cX7_isItem 5 (some .boolean), Cond.fieldLink RX7 7 "DoorsThatRememberModel" "text" "[B", Cond.fieldLink RX7 50 "DoorsThatRememberModel" "got" "[I", Cond.methodLink RX7 78 yX7_numbers, Cond.static yX7_numbers]
def wsX7_lay_r2 : List Cond := [Cond.code yX7_numbers cX7_numbers 1 (some .int), Cond.methodLink RX7 82 yX7_number, Cond.instanceMethod yX7_number, Cond.selects RX7 yX7_number yX7_number, Cond.code yX7_number cX7_number 3 (some .int), Cond.constantLong RX7 72 (48), Cond.constantLong RX7 74 (57), Cond.constantLong RX7 76 (2), Cond.methodLink RX7 61 yX7_in, Cond.static yX7_in, Cond.code yX7_in cX7_in 6 (some .boolean), Cond.methodLink RX7 86 yX7_isGood, Cond.instanceMethod yX7_isGood, Cond.selects RX7 yX7_isGood yX7_isGood, Cond.code yX7_isGood cX7_isGood 5 (some .boolean), Cond.constantLong RX7 90 (6), Cond.constantLong RX7 96 (20), Cond.constantLong RX7 101 (9), Cond.methodLink RX7 92 yX7_isDoorPut, Cond.instanceMethod yX7_isDoorPut, Cond.selects RX7 yX7_isDoorPut yX7_isDoorPut, Cond.code yX7_isDoorPut cX7_isDoorPut 2 (some .boolean), Cond.fieldLink RX7 20 "DoorsThatRememberModel" "door" "[I", Cond.methodLink RX7 98 yX7_isLodgerPut]
def wsX7_lay_r3 : List Cond := [Cond.instanceMethod yX7_isLodgerPut, Cond.selects RX7 yX7_isLodgerPut yX7_isLodgerPut, Cond.code yX7_isLodgerPut cX7_isLodgerPut 2 (some .boolean), Cond.fieldLink RX7 29 "DoorsThatRememberModel" "lodger" "[I", Cond.methodLink RX7 115 yX7_isWhole, Cond.instanceMethod yX7_isWhole, Cond.selects RX7 yX7_isWhole yX7_isWhole, Cond.code yX7_isWhole cX7_isWhole 3 (some .boolean), Cond.methodLink RX7 56 yX7_takes, Cond.instanceMethod yX7_takes, Cond.selects RX7 yX7_takes yX7_takes, Cond.code yX7_takes cX7_takes 2 none, Cond.fieldLink RX7 35 "DoorsThatRememberModel" "slot" "[I", Cond.fieldLink RX7 103 "DoorsThatRememberModel" "done" "I", Cond.fieldLink RX7 106 "DoorsThatRememberModel" "kept" "I"]
def wsX7_lay : List Cond := .code yX7_lay cX7_lay 1 (some .int) :: ((wsX7_lay_r1 ++ (wsX7_lay_r2 ++ wsX7_lay_r3)) ++ wsX70)
def wsX7_isDoor : List Cond := .code yX7_isDoor cX7_isDoor 2 (some .boolean) :: ([.fieldLink RX7 17 "DoorsThatRememberModel" "doors" "[I", .methodLink RX7 61 yX7_in, .static yX7_in, .initialized RX7, .code yX7_in cX7_in 6 (some .boolean)] ++ wsX70)
def wsX7_isLodger : List Cond := .code yX7_isLodger cX7_isLodger 2 (some .boolean) :: ([.fieldLink RX7 26 "DoorsThatRememberModel" "lodgers" "[I", .methodLink RX7 61 yX7_in, .static yX7_in, .initialized RX7, .code yX7_in cX7_in 6 (some .boolean)] ++ wsX70)
def wsX7_isRoom : List Cond := .code yX7_isRoom cX7_isRoom 2 (some .boolean) :: ([.fieldLink RX7 13 "DoorsThatRememberModel" "told" "[I", .methodLink RX7 61 yX7_in, .static yX7_in, .initialized RX7, .code yX7_in cX7_in 6 (some .boolean)] ++ wsX70)
def wsX7_door : List Cond := .code yX7_door cX7_door 3 (some .int) :: ([.constantLong RX7 121 (4), .fieldLink RX7 20 "DoorsThatRememberModel" "door" "[I", .fieldLink RX7 35 "DoorsThatRememberModel" "slot" "[I", .fieldLink RX7 23 "DoorsThatRememberModel" "draught" "[I", .methodLink RX7 118 yX7_isDoor, .instanceMethod yX7_isDoor, .selects RX7 yX7_isDoor yX7_isDoor, .initialized RX7, .code yX7_isDoor cX7_isDoor 2 (some .boolean), .fieldLink RX7 17 "DoorsThatRememberModel" "doors" "[I", .methodLink RX7 61 yX7_in, .static yX7_in, .code yX7_in cX7_in 6 (some .boolean)] ++ wsX70)
def wsX7_lodger : List Cond := .code yX7_lodger cX7_lodger 3 (some .int) :: ([.constantLong RX7 76 (2), .fieldLink RX7 35 "DoorsThatRememberModel" "slot" "[I", .fieldLink RX7 29 "DoorsThatRememberModel" "lodger" "[I", .methodLink RX7 123 yX7_isLodger, .instanceMethod yX7_isLodger, .selects RX7 yX7_isLodger yX7_isLodger, .initialized RX7, .code yX7_isLodger cX7_isLodger 2 (some .boolean), .fieldLink RX7 26 "DoorsThatRememberModel" "lodgers" "[I", .methodLink RX7 61 yX7_in, .static yX7_in, .code yX7_in cX7_in 6 (some .boolean)] ++ wsX70)
def wsX7_grudge : List Cond := .code yX7_grudge cX7_grudge 3 (some .int) :: ([.fieldLink RX7 35 "DoorsThatRememberModel" "slot" "[I", .methodLink RX7 118 yX7_isDoor, .instanceMethod yX7_isDoor, .selects RX7 yX7_isDoor yX7_isDoor, .initialized RX7, .code yX7_isDoor cX7_isDoor 2 (some .boolean), .fieldLink RX7 17 "DoorsThatRememberModel" "doors" "[I", .methodLink RX7 61 yX7_in, .static yX7_in, .code yX7_in cX7_in 6 (some .boolean), .methodLink RX7 123 yX7_isLodger, .instanceMethod yX7_isLodger, .selects RX7 yX7_isLodger yX7_isLodger, .code yX7_isLodger cX7_isLodger 2 (some .boolean), .fieldLink RX7 26 "DoorsThatRememberModel" "lodgers" "[I"] ++ wsX70)
def wsX7_copies : List Cond := .code yX7_copies cX7_copies 4 none :: ([.fieldLink RX7 35 "DoorsThatRememberModel" "slot" "[I"] ++ wsX70)
def wsX7_known : List Cond := .code yX7_known cX7_known 2 none :: ([.fieldLink RX7 103 "DoorsThatRememberModel" "done" "I", .methodLink RX7 126 yX7_copies, .instanceMethod yX7_copies, .selects RX7 yX7_copies yX7_copies, .initialized RX7, .code yX7_copies cX7_copies 4 none, .fieldLink RX7 35 "DoorsThatRememberModel" "slot" "[I"] ++ wsX70)
def wsX7_costs : List Cond := .code yX7_costs cX7_costs 4 (some .int) :: ([.fieldLink RX7 35 "DoorsThatRememberModel" "slot" "[I"] ++ wsX70)
def wsX7_isOf : List Cond := .code yX7_isOf cX7_isOf 3 (some .boolean) :: ([.fieldLink RX7 20 "DoorsThatRememberModel" "door" "[I"] ++ wsX70)
def wsX7_over : List Cond := .code yX7_over cX7_over 3 (some .int) :: ([.fieldLink RX7 20 "DoorsThatRememberModel" "door" "[I"] ++ wsX70)
def wsX7_becomes : List Cond := .code yX7_becomes cX7_becomes 5 (some .int) :: ([.fieldLink RX7 29 "DoorsThatRememberModel" "lodger" "[I", .fieldLink RX7 13 "DoorsThatRememberModel" "told" "[I"] ++ wsX70)
def wsX7_goes : List Cond := .code yX7_goes cX7_goes 7 (some .int) :: ([.fieldLink RX7 35 "DoorsThatRememberModel" "slot" "[I", .methodLink RX7 130 yX7_costs, .instanceMethod yX7_costs, .selects RX7 yX7_costs yX7_costs, .initialized RX7, .code yX7_costs cX7_costs 4 (some .int), .methodLink RX7 134 yX7_becomes, .instanceMethod yX7_becomes, .selects RX7 yX7_becomes yX7_becomes, .code yX7_becomes cX7_becomes 5 (some .int), .fieldLink RX7 29 "DoorsThatRememberModel" "lodger" "[I", .fieldLink RX7 13 "DoorsThatRememberModel" "told" "[I", .methodLink RX7 138 yX7_over, .instanceMethod yX7_over, .selects RX7 yX7_over yX7_over, .code yX7_over cX7_over 3 (some .int), .fieldLink RX7 20 "DoorsThatRememberModel" "door" "[I"] ++ wsX70)
def wsX7_go_r1 : List Cond := [Cond.fieldLink RX7 35 "DoorsThatRememberModel" "slot" "[I", Cond.methodLink RX7 123 yX7_isLodger, Cond.instanceMethod yX7_isLodger, Cond.selects RX7 yX7_isLodger yX7_isLodger, Cond.initialized RX7, Cond.code yX7_isLodger cX7_isLodger 2 (some .boolean), Cond.fieldLink RX7 26 "DoorsThatRememberModel" "lodgers" "[I", Cond.methodLink RX7 61 yX7_in, Cond.static yX7_in, Cond.code yX7_in cX7_in 6 (some .boolean), Cond.methodLink RX7 118 yX7_isDoor, Cond.instanceMethod yX7_isDoor, Cond.selects RX7 yX7_isDoor yX7_isDoor, Cond.code yX7_isDoor cX7_isDoor 2 (some .boolean), Cond.fieldLink RX7 17 "DoorsThatRememberModel" "doors" "[I", Cond.methodLink RX7 142 yX7_isOf, Cond.instanceMethod yX7_isOf, Cond.selects RX7 yX7_isOf yX7_isOf, Cond.code yX7_isOf cX7_isOf 3 (some .boolean), Cond.fieldLink RX7 20 "DoorsThatRememberModel" "door" "[I", Cond.methodLink RX7 146 yX7_known, Cond.instanceMethod yX7_known, Cond.selects RX7 yX7_known yX7_known, Cond.code yX7_known cX7_known 2 none]
def wsX7_go_r2 : List Cond := [Cond.fieldLink RX7 103 "DoorsThatRememberModel" "done" "I", Cond.methodLink RX7 126 yX7_copies, Cond.instanceMethod yX7_copies, Cond.selects RX7 yX7_copies yX7_copies, Cond.code yX7_copies cX7_copies 4 none, Cond.methodLink RX7 149 yX7_goes, Cond.instanceMethod yX7_goes, Cond.selects RX7 yX7_goes yX7_goes, Cond.code yX7_goes cX7_goes 7 (some .int), Cond.methodLink RX7 130 yX7_costs, Cond.instanceMethod yX7_costs, Cond.selects RX7 yX7_costs yX7_costs, Cond.code yX7_costs cX7_costs 4 (some .int), Cond.methodLink RX7 134 yX7_becomes, Cond.instanceMethod yX7_becomes, Cond.selects RX7 yX7_becomes yX7_becomes, Cond.code yX7_becomes cX7_becomes 5 (some .int), Cond.fieldLink RX7 29 "DoorsThatRememberModel" "lodger" "[I", Cond.fieldLink RX7 13 "DoorsThatRememberModel" "told" "[I", Cond.methodLink RX7 138 yX7_over, Cond.instanceMethod yX7_over, Cond.selects RX7 yX7_over yX7_over, Cond.code yX7_over cX7_over 3 (some .int)]
def wsX7_go : List Cond := .code yX7_go cX7_go 4 (some .int) :: ((wsX7_go_r1 ++ wsX7_go_r2) ++ wsX70)
def wsX7_oil : List Cond := .code yX7_oil cX7_oil 4 (some .int) :: ([.fieldLink RX7 35 "DoorsThatRememberModel" "slot" "[I", .fieldLink RX7 13 "DoorsThatRememberModel" "told" "[I", .fieldLink RX7 17 "DoorsThatRememberModel" "doors" "[I", .methodLink RX7 118 yX7_isDoor, .instanceMethod yX7_isDoor, .selects RX7 yX7_isDoor yX7_isDoor, .initialized RX7, .code yX7_isDoor cX7_isDoor 2 (some .boolean), .methodLink RX7 61 yX7_in, .static yX7_in, .code yX7_in cX7_in 6 (some .boolean), .methodLink RX7 146 yX7_known, .instanceMethod yX7_known, .selects RX7 yX7_known yX7_known, .code yX7_known cX7_known 2 none, .fieldLink RX7 103 "DoorsThatRememberModel" "done" "I", .methodLink RX7 126 yX7_copies, .instanceMethod yX7_copies, .selects RX7 yX7_copies yX7_copies, .code yX7_copies cX7_copies 4 none] ++ wsX70)
def wsX7_nights : List Cond := .code yX7_nights cX7_nights 8 none :: ([.fieldLink RX7 38 "DoorsThatRememberModel" "was" "[I", .fieldLink RX7 35 "DoorsThatRememberModel" "slot" "[I", .fieldLink RX7 17 "DoorsThatRememberModel" "doors" "[I", .fieldLink RX7 20 "DoorsThatRememberModel" "door" "[I", .fieldLink RX7 26 "DoorsThatRememberModel" "lodgers" "[I", .fieldLink RX7 13 "DoorsThatRememberModel" "told" "[I", .fieldLink RX7 23 "DoorsThatRememberModel" "draught" "[I"] ++ wsX70)
def wsX7_night_r1 : List Cond := [Cond.constantLong RX7 153 (60), Cond.fieldLink RX7 35 "DoorsThatRememberModel" "slot" "[I", Cond.methodLink RX7 61 yX7_in, Cond.static yX7_in, Cond.initialized RX7, Cond.code yX7_in cX7_in 6 (some .boolean), Cond.methodLink RX7 146 yX7_known, Cond.instanceMethod yX7_known, Cond.selects RX7 yX7_known yX7_known, Cond.code yX7_known cX7_known 2 none, Cond.fieldLink RX7 103 "DoorsThatRememberModel" "done" "I", Cond.methodLink RX7 126 yX7_copies, Cond.instanceMethod yX7_copies, Cond.selects RX7 yX7_copies yX7_copies, Cond.code yX7_copies cX7_copies 4 none, Cond.methodLink RX7 155 yX7_nights, Cond.instanceMethod yX7_nights, Cond.selects RX7 yX7_nights yX7_nights, Cond.code yX7_nights cX7_nights 8 none, Cond.fieldLink RX7 38 "DoorsThatRememberModel" "was" "[I", Cond.fieldLink RX7 17 "DoorsThatRememberModel" "doors" "[I", Cond.fieldLink RX7 20 "DoorsThatRememberModel" "door" "[I", Cond.fieldLink RX7 26 "DoorsThatRememberModel" "lodgers" "[I", Cond.fieldLink RX7 13 "DoorsThatRememberModel" "told" "[I"]
def wsX7_night_r2 : List Cond := [Cond.fieldLink RX7 23 "DoorsThatRememberModel" "draught" "[I"]
def wsX7_night : List Cond := .code yX7_night cX7_night 3 (some .int) :: ((wsX7_night_r1 ++ wsX7_night_r2) ++ wsX70)
def wsX7_undo : List Cond := .code yX7_undo cX7_undo 1 (some .int) :: ([.fieldLink RX7 103 "DoorsThatRememberModel" "done" "I", .methodLink RX7 126 yX7_copies, .instanceMethod yX7_copies, .selects RX7 yX7_copies yX7_copies, .initialized RX7, .code yX7_copies cX7_copies 4 none, .fieldLink RX7 35 "DoorsThatRememberModel" "slot" "[I"] ++ wsX70)
def wsX7_ways : List Cond := .code yX7_ways cX7_ways 10 none :: ([.fieldLink RX7 41 "DoorsThatRememberModel" "far" "[I", .constant RX7 159 (100000), .fieldLink RX7 17 "DoorsThatRememberModel" "doors" "[I", .fieldLink RX7 20 "DoorsThatRememberModel" "door" "[I", .methodLink RX7 130 yX7_costs, .instanceMethod yX7_costs, .selects RX7 yX7_costs yX7_costs, .initialized RX7, .code yX7_costs cX7_costs 4 (some .int), .fieldLink RX7 35 "DoorsThatRememberModel" "slot" "[I"] ++ wsX70)
def wsX7_wayOf : List Cond := .code yX7_wayOf cX7_wayOf 5 (some .int) :: ([.fieldLink RX7 41 "DoorsThatRememberModel" "far" "[I", .constant RX7 159 (100000), .methodLink RX7 160 yX7_ways, .instanceMethod yX7_ways, .selects RX7 yX7_ways yX7_ways, .initialized RX7, .code yX7_ways cX7_ways 10 none, .fieldLink RX7 17 "DoorsThatRememberModel" "doors" "[I", .fieldLink RX7 20 "DoorsThatRememberModel" "door" "[I", .methodLink RX7 130 yX7_costs, .instanceMethod yX7_costs, .selects RX7 yX7_costs yX7_costs, .code yX7_costs cX7_costs 4 (some .int), .fieldLink RX7 35 "DoorsThatRememberModel" "slot" "[I"] ++ wsX70)
def wsX7_way_r1 : List Cond := [Cond.methodLink RX7 123 yX7_isLodger, Cond.instanceMethod yX7_isLodger, Cond.selects RX7 yX7_isLodger yX7_isLodger, Cond.initialized RX7, Cond.code yX7_isLodger cX7_isLodger 2 (some .boolean), Cond.fieldLink RX7 26 "DoorsThatRememberModel" "lodgers" "[I", Cond.methodLink RX7 61 yX7_in, Cond.static yX7_in, Cond.code yX7_in cX7_in 6 (some .boolean), Cond.methodLink RX7 164 yX7_isRoom, Cond.instanceMethod yX7_isRoom, Cond.selects RX7 yX7_isRoom yX7_isRoom, Cond.code yX7_isRoom cX7_isRoom 2 (some .boolean), Cond.fieldLink RX7 13 "DoorsThatRememberModel" "told" "[I", Cond.methodLink RX7 167 yX7_wayOf, Cond.instanceMethod yX7_wayOf, Cond.selects RX7 yX7_wayOf yX7_wayOf, Cond.code yX7_wayOf cX7_wayOf 5 (some .int), Cond.fieldLink RX7 41 "DoorsThatRememberModel" "far" "[I", Cond.constant RX7 159 (100000), Cond.methodLink RX7 160 yX7_ways, Cond.instanceMethod yX7_ways, Cond.selects RX7 yX7_ways yX7_ways, Cond.code yX7_ways cX7_ways 10 none]
def wsX7_way_r2 : List Cond := [Cond.fieldLink RX7 17 "DoorsThatRememberModel" "doors" "[I", Cond.fieldLink RX7 20 "DoorsThatRememberModel" "door" "[I", Cond.methodLink RX7 130 yX7_costs, Cond.instanceMethod yX7_costs, Cond.selects RX7 yX7_costs yX7_costs, Cond.code yX7_costs cX7_costs 4 (some .int), Cond.fieldLink RX7 35 "DoorsThatRememberModel" "slot" "[I"]
def wsX7_way : List Cond := .code yX7_way cX7_way 4 (some .int) :: ((wsX7_way_r1 ++ wsX7_way_r2) ++ wsX70)
def wsX7_firstOf_r1 : List Cond := [Cond.fieldLink RX7 17 "DoorsThatRememberModel" "doors" "[I", Cond.fieldLink RX7 41 "DoorsThatRememberModel" "far" "[I", Cond.methodLink RX7 167 yX7_wayOf, Cond.instanceMethod yX7_wayOf, Cond.selects RX7 yX7_wayOf yX7_wayOf, Cond.initialized RX7, Cond.code yX7_wayOf cX7_wayOf 5 (some .int), Cond.constant RX7 159 (100000), Cond.methodLink RX7 160 yX7_ways, Cond.instanceMethod yX7_ways, Cond.selects RX7 yX7_ways yX7_ways, Cond.code yX7_ways cX7_ways 10 none, Cond.fieldLink RX7 20 "DoorsThatRememberModel" "door" "[I", Cond.methodLink RX7 130 yX7_costs, Cond.instanceMethod yX7_costs, Cond.selects RX7 yX7_costs yX7_costs, Cond.code yX7_costs cX7_costs 4 (some .int), Cond.fieldLink RX7 35 "DoorsThatRememberModel" "slot" "[I", Cond.methodLink RX7 142 yX7_isOf, Cond.instanceMethod yX7_isOf, Cond.selects RX7 yX7_isOf yX7_isOf, Cond.code yX7_isOf cX7_isOf 3 (some .boolean), Cond.methodLink RX7 138 yX7_over, Cond.instanceMethod yX7_over]
def wsX7_firstOf_r2 : List Cond := [Cond.selects RX7 yX7_over yX7_over, Cond.code yX7_over cX7_over 3 (some .int)]
def wsX7_firstOf : List Cond := .code yX7_firstOf cX7_firstOf 7 (some .int) :: ((wsX7_firstOf_r1 ++ wsX7_firstOf_r2) ++ wsX70)
def wsX7_first_r1 : List Cond := [Cond.methodLink RX7 123 yX7_isLodger, Cond.instanceMethod yX7_isLodger, Cond.selects RX7 yX7_isLodger yX7_isLodger, Cond.initialized RX7, Cond.code yX7_isLodger cX7_isLodger 2 (some .boolean), Cond.fieldLink RX7 26 "DoorsThatRememberModel" "lodgers" "[I", Cond.methodLink RX7 61 yX7_in, Cond.static yX7_in, Cond.code yX7_in cX7_in 6 (some .boolean), Cond.methodLink RX7 164 yX7_isRoom, Cond.instanceMethod yX7_isRoom, Cond.selects RX7 yX7_isRoom yX7_isRoom, Cond.code yX7_isRoom cX7_isRoom 2 (some .boolean), Cond.fieldLink RX7 13 "DoorsThatRememberModel" "told" "[I", Cond.methodLink RX7 171 yX7_firstOf, Cond.instanceMethod yX7_firstOf, Cond.selects RX7 yX7_firstOf yX7_firstOf, Cond.code yX7_firstOf cX7_firstOf 7 (some .int), Cond.fieldLink RX7 17 "DoorsThatRememberModel" "doors" "[I", Cond.fieldLink RX7 41 "DoorsThatRememberModel" "far" "[I", Cond.methodLink RX7 167 yX7_wayOf, Cond.instanceMethod yX7_wayOf, Cond.selects RX7 yX7_wayOf yX7_wayOf, Cond.code yX7_wayOf cX7_wayOf 5 (some .int)]
def wsX7_first_r2 : List Cond := [Cond.constant RX7 159 (100000), Cond.methodLink RX7 160 yX7_ways, Cond.instanceMethod yX7_ways, Cond.selects RX7 yX7_ways yX7_ways, Cond.code yX7_ways cX7_ways 10 none, Cond.fieldLink RX7 20 "DoorsThatRememberModel" "door" "[I", Cond.methodLink RX7 130 yX7_costs, Cond.instanceMethod yX7_costs, Cond.selects RX7 yX7_costs yX7_costs, Cond.code yX7_costs cX7_costs 4 (some .int), Cond.fieldLink RX7 35 "DoorsThatRememberModel" "slot" "[I", Cond.methodLink RX7 142 yX7_isOf, Cond.instanceMethod yX7_isOf, Cond.selects RX7 yX7_isOf yX7_isOf, Cond.code yX7_isOf cX7_isOf 3 (some .boolean), Cond.methodLink RX7 138 yX7_over, Cond.instanceMethod yX7_over, Cond.selects RX7 yX7_over yX7_over, Cond.code yX7_over cX7_over 3 (some .int)]
def wsX7_first : List Cond := .code yX7_first cX7_first 4 (some .int) :: ((wsX7_first_r1 ++ wsX7_first_r2) ++ wsX70)
def wsX7_many : List Cond := .code yX7_many cX7_many 3 (some .int) :: ([])
def wsX7_inTime_r1 : List Cond := [Cond.constantLong RX7 174 (600), Cond.fieldLink RX7 17 "DoorsThatRememberModel" "doors" "[I", Cond.fieldLink RX7 29 "DoorsThatRememberModel" "lodger" "[I", Cond.fieldLink RX7 41 "DoorsThatRememberModel" "far" "[I", Cond.fieldLink RX7 35 "DoorsThatRememberModel" "slot" "[I", Cond.methodLink RX7 123 yX7_isLodger, Cond.instanceMethod yX7_isLodger, Cond.selects RX7 yX7_isLodger yX7_isLodger, Cond.initialized RX7, Cond.code yX7_isLodger cX7_isLodger 2 (some .boolean), Cond.fieldLink RX7 26 "DoorsThatRememberModel" "lodgers" "[I", Cond.methodLink RX7 61 yX7_in, Cond.static yX7_in, Cond.code yX7_in cX7_in 6 (some .boolean), Cond.methodLink RX7 160 yX7_ways, Cond.instanceMethod yX7_ways, Cond.selects RX7 yX7_ways yX7_ways, Cond.code yX7_ways cX7_ways 10 none, Cond.constant RX7 159 (100000), Cond.fieldLink RX7 20 "DoorsThatRememberModel" "door" "[I", Cond.methodLink RX7 130 yX7_costs, Cond.instanceMethod yX7_costs, Cond.selects RX7 yX7_costs yX7_costs, Cond.code yX7_costs cX7_costs 4 (some .int)]
def wsX7_inTime_r2 : List Cond := [Cond.methodLink RX7 176 yX7_many, Cond.static yX7_many, Cond.code yX7_many cX7_many 3 (some .int)]
def wsX7_inTime : List Cond := .code yX7_inTime cX7_inTime 5 (some .int) :: ((wsX7_inTime_r1 ++ wsX7_inTime_r2) ++ wsX70)
def wsX7_tries : List Cond := .code yX7_tries cX7_tries 5 none :: ([.fieldLink RX7 26 "DoorsThatRememberModel" "lodgers" "[I", .fieldLink RX7 44 "DoorsThatRememberModel" "row" "[I", .fieldLink RX7 29 "DoorsThatRememberModel" "lodger" "[I", .fieldLink RX7 181 "DoorsThatRememberModel" "least" "I", .fieldLink RX7 47 "DoorsThatRememberModel" "best" "[I", .methodLink RX7 167 yX7_wayOf, .instanceMethod yX7_wayOf, .selects RX7 yX7_wayOf yX7_wayOf, .initialized RX7, .code yX7_wayOf cX7_wayOf 5 (some .int), .fieldLink RX7 41 "DoorsThatRememberModel" "far" "[I", .constant RX7 159 (100000), .methodLink RX7 160 yX7_ways, .instanceMethod yX7_ways, .selects RX7 yX7_ways yX7_ways, .code yX7_ways cX7_ways 10 none, .fieldLink RX7 17 "DoorsThatRememberModel" "doors" "[I", .fieldLink RX7 20 "DoorsThatRememberModel" "door" "[I", .methodLink RX7 130 yX7_costs, .instanceMethod yX7_costs, .selects RX7 yX7_costs yX7_costs, .code yX7_costs cX7_costs 4 (some .int), .fieldLink RX7 35 "DoorsThatRememberModel" "slot" "[I"] ++ wsX70)
def wsX7_rooms_r1 : List Cond := [Cond.constantLong RX7 179 (-1), Cond.fieldLink RX7 26 "DoorsThatRememberModel" "lodgers" "[I", Cond.fieldLink RX7 181 "DoorsThatRememberModel" "least" "I", Cond.fieldLink RX7 13 "DoorsThatRememberModel" "told" "[I", Cond.fieldLink RX7 44 "DoorsThatRememberModel" "row" "[I", Cond.fieldLink RX7 47 "DoorsThatRememberModel" "best" "[I", Cond.methodLink RX7 61 yX7_in, Cond.static yX7_in, Cond.initialized RX7, Cond.code yX7_in cX7_in 6 (some .boolean), Cond.methodLink RX7 184 yX7_tries, Cond.instanceMethod yX7_tries, Cond.selects RX7 yX7_tries yX7_tries, Cond.code yX7_tries cX7_tries 5 none, Cond.fieldLink RX7 29 "DoorsThatRememberModel" "lodger" "[I", Cond.methodLink RX7 167 yX7_wayOf, Cond.instanceMethod yX7_wayOf, Cond.selects RX7 yX7_wayOf yX7_wayOf, Cond.code yX7_wayOf cX7_wayOf 5 (some .int), Cond.fieldLink RX7 41 "DoorsThatRememberModel" "far" "[I", Cond.constant RX7 159 (100000), Cond.methodLink RX7 160 yX7_ways, Cond.instanceMethod yX7_ways, Cond.selects RX7 yX7_ways yX7_ways]
def wsX7_rooms_r2 : List Cond := [Cond.code yX7_ways cX7_ways 10 none, Cond.fieldLink RX7 17 "DoorsThatRememberModel" "doors" "[I", Cond.fieldLink RX7 20 "DoorsThatRememberModel" "door" "[I", Cond.methodLink RX7 130 yX7_costs, Cond.instanceMethod yX7_costs, Cond.selects RX7 yX7_costs yX7_costs, Cond.code yX7_costs cX7_costs 4 (some .int), Cond.fieldLink RX7 35 "DoorsThatRememberModel" "slot" "[I"]
def wsX7_rooms : List Cond := .code yX7_rooms cX7_rooms 6 (some .int) :: ((wsX7_rooms_r1 ++ wsX7_rooms_r2) ++ wsX70)
def wsX7_behinds : List Cond := .code yX7_behinds cX7_behinds 4 none :: ([.fieldLink RX7 17 "DoorsThatRememberModel" "doors" "[I", .fieldLink RX7 35 "DoorsThatRememberModel" "slot" "[I", .methodLink RX7 126 yX7_copies, .instanceMethod yX7_copies, .selects RX7 yX7_copies yX7_copies, .initialized RX7, .code yX7_copies cX7_copies 4 none, .methodLink RX7 155 yX7_nights, .instanceMethod yX7_nights, .selects RX7 yX7_nights yX7_nights, .code yX7_nights cX7_nights 8 none, .fieldLink RX7 38 "DoorsThatRememberModel" "was" "[I", .fieldLink RX7 20 "DoorsThatRememberModel" "door" "[I", .fieldLink RX7 26 "DoorsThatRememberModel" "lodgers" "[I", .fieldLink RX7 13 "DoorsThatRememberModel" "told" "[I", .fieldLink RX7 23 "DoorsThatRememberModel" "draught" "[I"] ++ wsX70)
def wsX7_isBehind : List Cond := .code yX7_isBehind cX7_isBehind 1 (some .boolean) :: ([.constantLong RX7 153 (60), .methodLink RX7 61 yX7_in, .static yX7_in, .initialized RX7, .code yX7_in cX7_in 6 (some .boolean)])
def wsX7_behind_r1 : List Cond := [Cond.fieldLink RX7 35 "DoorsThatRememberModel" "slot" "[I", Cond.methodLink RX7 187 yX7_isBehind, Cond.static yX7_isBehind, Cond.initialized RX7, Cond.code yX7_isBehind cX7_isBehind 1 (some .boolean), Cond.constantLong RX7 153 (60), Cond.methodLink RX7 61 yX7_in, Cond.static yX7_in, Cond.code yX7_in cX7_in 6 (some .boolean), Cond.methodLink RX7 118 yX7_isDoor, Cond.instanceMethod yX7_isDoor, Cond.selects RX7 yX7_isDoor yX7_isDoor, Cond.code yX7_isDoor cX7_isDoor 2 (some .boolean), Cond.fieldLink RX7 17 "DoorsThatRememberModel" "doors" "[I", Cond.methodLink RX7 123 yX7_isLodger, Cond.instanceMethod yX7_isLodger, Cond.selects RX7 yX7_isLodger yX7_isLodger, Cond.code yX7_isLodger cX7_isLodger 2 (some .boolean), Cond.fieldLink RX7 26 "DoorsThatRememberModel" "lodgers" "[I", Cond.methodLink RX7 190 yX7_behinds, Cond.instanceMethod yX7_behinds, Cond.selects RX7 yX7_behinds yX7_behinds, Cond.code yX7_behinds cX7_behinds 4 none, Cond.methodLink RX7 126 yX7_copies]
def wsX7_behind_r2 : List Cond := [Cond.instanceMethod yX7_copies, Cond.selects RX7 yX7_copies yX7_copies, Cond.code yX7_copies cX7_copies 4 none, Cond.methodLink RX7 155 yX7_nights, Cond.instanceMethod yX7_nights, Cond.selects RX7 yX7_nights yX7_nights, Cond.code yX7_nights cX7_nights 8 none, Cond.fieldLink RX7 38 "DoorsThatRememberModel" "was" "[I", Cond.fieldLink RX7 20 "DoorsThatRememberModel" "door" "[I", Cond.fieldLink RX7 13 "DoorsThatRememberModel" "told" "[I", Cond.fieldLink RX7 23 "DoorsThatRememberModel" "draught" "[I"]
def wsX7_behind : List Cond := .code yX7_behind cX7_behind 4 (some .int) :: ((wsX7_behind_r1 ++ wsX7_behind_r2) ++ wsX70)
def wsX7_worst_r1 : List Cond := [Cond.fieldLink RX7 17 "DoorsThatRememberModel" "doors" "[I", Cond.fieldLink RX7 35 "DoorsThatRememberModel" "slot" "[I", Cond.methodLink RX7 187 yX7_isBehind, Cond.static yX7_isBehind, Cond.initialized RX7, Cond.code yX7_isBehind cX7_isBehind 1 (some .boolean), Cond.constantLong RX7 153 (60), Cond.methodLink RX7 61 yX7_in, Cond.static yX7_in, Cond.code yX7_in cX7_in 6 (some .boolean), Cond.methodLink RX7 123 yX7_isLodger, Cond.instanceMethod yX7_isLodger, Cond.selects RX7 yX7_isLodger yX7_isLodger, Cond.code yX7_isLodger cX7_isLodger 2 (some .boolean), Cond.fieldLink RX7 26 "DoorsThatRememberModel" "lodgers" "[I", Cond.methodLink RX7 190 yX7_behinds, Cond.instanceMethod yX7_behinds, Cond.selects RX7 yX7_behinds yX7_behinds, Cond.code yX7_behinds cX7_behinds 4 none, Cond.methodLink RX7 126 yX7_copies, Cond.instanceMethod yX7_copies, Cond.selects RX7 yX7_copies yX7_copies, Cond.code yX7_copies cX7_copies 4 none, Cond.methodLink RX7 155 yX7_nights]
def wsX7_worst_r2 : List Cond := [Cond.instanceMethod yX7_nights, Cond.selects RX7 yX7_nights yX7_nights, Cond.code yX7_nights cX7_nights 8 none, Cond.fieldLink RX7 38 "DoorsThatRememberModel" "was" "[I", Cond.fieldLink RX7 20 "DoorsThatRememberModel" "door" "[I", Cond.fieldLink RX7 13 "DoorsThatRememberModel" "told" "[I", Cond.fieldLink RX7 23 "DoorsThatRememberModel" "draught" "[I"]
def wsX7_worst : List Cond := .code yX7_worst cX7_worst 5 (some .int) :: ((wsX7_worst_r1 ++ wsX7_worst_r2) ++ wsX70)
def wsX7_stop_r1 : List Cond := [Cond.constantLong RX7 193 (99), Cond.fieldLink RX7 17 "DoorsThatRememberModel" "doors" "[I", Cond.fieldLink RX7 35 "DoorsThatRememberModel" "slot" "[I", Cond.methodLink RX7 187 yX7_isBehind, Cond.static yX7_isBehind, Cond.initialized RX7, Cond.code yX7_isBehind cX7_isBehind 1 (some .boolean), Cond.constantLong RX7 153 (60), Cond.methodLink RX7 61 yX7_in, Cond.static yX7_in, Cond.code yX7_in cX7_in 6 (some .boolean), Cond.methodLink RX7 118 yX7_isDoor, Cond.instanceMethod yX7_isDoor, Cond.selects RX7 yX7_isDoor yX7_isDoor, Cond.code yX7_isDoor cX7_isDoor 2 (some .boolean), Cond.methodLink RX7 123 yX7_isLodger, Cond.instanceMethod yX7_isLodger, Cond.selects RX7 yX7_isLodger yX7_isLodger, Cond.code yX7_isLodger cX7_isLodger 2 (some .boolean), Cond.fieldLink RX7 26 "DoorsThatRememberModel" "lodgers" "[I", Cond.methodLink RX7 176 yX7_many, Cond.static yX7_many, Cond.code yX7_many cX7_many 3 (some .int), Cond.methodLink RX7 190 yX7_behinds]
def wsX7_stop_r2 : List Cond := [Cond.instanceMethod yX7_behinds, Cond.selects RX7 yX7_behinds yX7_behinds, Cond.code yX7_behinds cX7_behinds 4 none, Cond.methodLink RX7 126 yX7_copies, Cond.instanceMethod yX7_copies, Cond.selects RX7 yX7_copies yX7_copies, Cond.code yX7_copies cX7_copies 4 none, Cond.methodLink RX7 155 yX7_nights, Cond.instanceMethod yX7_nights, Cond.selects RX7 yX7_nights yX7_nights, Cond.code yX7_nights cX7_nights 8 none, Cond.fieldLink RX7 38 "DoorsThatRememberModel" "was" "[I", Cond.fieldLink RX7 20 "DoorsThatRememberModel" "door" "[I", Cond.fieldLink RX7 13 "DoorsThatRememberModel" "told" "[I", Cond.fieldLink RX7 23 "DoorsThatRememberModel" "draught" "[I"]
def wsX7_stop : List Cond := .code yX7_stop cX7_stop 7 (some .int) :: ((wsX7_stop_r1 ++ wsX7_stop_r2) ++ wsX70)
def wsX7_how_r1 : List Cond := [Cond.constantLong RX7 59 (8), Cond.constantLong RX7 195 (100), Cond.fieldLink RX7 32 "DoorsThatRememberModel" "first" "[I", Cond.methodLink RX7 123 yX7_isLodger, Cond.instanceMethod yX7_isLodger, Cond.selects RX7 yX7_isLodger yX7_isLodger, Cond.initialized RX7, Cond.code yX7_isLodger cX7_isLodger 2 (some .boolean), Cond.fieldLink RX7 26 "DoorsThatRememberModel" "lodgers" "[I", Cond.methodLink RX7 61 yX7_in, Cond.static yX7_in, Cond.code yX7_in cX7_in 6 (some .boolean), Cond.methodLink RX7 118 yX7_isDoor, Cond.instanceMethod yX7_isDoor, Cond.selects RX7 yX7_isDoor yX7_isDoor, Cond.code yX7_isDoor cX7_isDoor 2 (some .boolean), Cond.fieldLink RX7 17 "DoorsThatRememberModel" "doors" "[I", Cond.methodLink RX7 134 yX7_becomes, Cond.instanceMethod yX7_becomes, Cond.selects RX7 yX7_becomes yX7_becomes, Cond.code yX7_becomes cX7_becomes 5 (some .int), Cond.fieldLink RX7 29 "DoorsThatRememberModel" "lodger" "[I", Cond.fieldLink RX7 13 "DoorsThatRememberModel" "told" "[I", Cond.methodLink RX7 176 yX7_many]
def wsX7_how_r2 : List Cond := [Cond.static yX7_many, Cond.code yX7_many cX7_many 3 (some .int)]
def wsX7_how : List Cond := .code yX7_how cX7_how 11 (some .int) :: ((wsX7_how_r1 ++ wsX7_how_r2) ++ wsX70)
def wsX7_news : List Cond := .code yX7_news cX7_news 4 (some .int) :: ([.fieldLink RX7 26 "DoorsThatRememberModel" "lodgers" "[I", .fieldLink RX7 35 "DoorsThatRememberModel" "slot" "[I"] ++ wsX70)
def wsX7_fresh : List Cond := .code yX7_fresh cX7_fresh 4 (some .int) :: ([.fieldLink RX7 17 "DoorsThatRememberModel" "doors" "[I", .methodLink RX7 197 yX7_news, .instanceMethod yX7_news, .selects RX7 yX7_news yX7_news, .initialized RX7, .code yX7_news cX7_news 4 (some .int), .fieldLink RX7 26 "DoorsThatRememberModel" "lodgers" "[I", .fieldLink RX7 35 "DoorsThatRememberModel" "slot" "[I", .methodLink RX7 118 yX7_isDoor, .instanceMethod yX7_isDoor, .selects RX7 yX7_isDoor yX7_isDoor, .code yX7_isDoor cX7_isDoor 2 (some .boolean), .methodLink RX7 61 yX7_in, .static yX7_in, .code yX7_in cX7_in 6 (some .boolean)] ++ wsX70)
def wsX7_walks_r1 : List Cond := [Cond.fieldLink RX7 35 "DoorsThatRememberModel" "slot" "[I", Cond.methodLink RX7 171 yX7_firstOf, Cond.instanceMethod yX7_firstOf, Cond.selects RX7 yX7_firstOf yX7_firstOf, Cond.initialized RX7, Cond.code yX7_firstOf cX7_firstOf 7 (some .int), Cond.fieldLink RX7 17 "DoorsThatRememberModel" "doors" "[I", Cond.fieldLink RX7 41 "DoorsThatRememberModel" "far" "[I", Cond.methodLink RX7 167 yX7_wayOf, Cond.instanceMethod yX7_wayOf, Cond.selects RX7 yX7_wayOf yX7_wayOf, Cond.code yX7_wayOf cX7_wayOf 5 (some .int), Cond.constant RX7 159 (100000), Cond.methodLink RX7 160 yX7_ways, Cond.instanceMethod yX7_ways, Cond.selects RX7 yX7_ways yX7_ways, Cond.code yX7_ways cX7_ways 10 none, Cond.fieldLink RX7 20 "DoorsThatRememberModel" "door" "[I", Cond.methodLink RX7 130 yX7_costs, Cond.instanceMethod yX7_costs, Cond.selects RX7 yX7_costs yX7_costs, Cond.code yX7_costs cX7_costs 4 (some .int), Cond.methodLink RX7 142 yX7_isOf, Cond.instanceMethod yX7_isOf]
def wsX7_walks_r2 : List Cond := [Cond.selects RX7 yX7_isOf yX7_isOf, Cond.code yX7_isOf cX7_isOf 3 (some .boolean), Cond.methodLink RX7 138 yX7_over, Cond.instanceMethod yX7_over, Cond.selects RX7 yX7_over yX7_over, Cond.code yX7_over cX7_over 3 (some .int), Cond.methodLink RX7 149 yX7_goes, Cond.instanceMethod yX7_goes, Cond.selects RX7 yX7_goes yX7_goes, Cond.code yX7_goes cX7_goes 7 (some .int), Cond.methodLink RX7 134 yX7_becomes, Cond.instanceMethod yX7_becomes, Cond.selects RX7 yX7_becomes yX7_becomes, Cond.code yX7_becomes cX7_becomes 5 (some .int), Cond.fieldLink RX7 29 "DoorsThatRememberModel" "lodger" "[I", Cond.fieldLink RX7 13 "DoorsThatRememberModel" "told" "[I"]
def wsX7_walks : List Cond := .code yX7_walks cX7_walks 6 none :: ((wsX7_walks_r1 ++ wsX7_walks_r2) ++ wsX70)
def wsX7_week_r1 : List Cond := [Cond.constantLong RX7 200 (9999), Cond.constantLong RX7 153 (60), Cond.constantLong RX7 202 (7919), Cond.constantLong RX7 204 (6151), Cond.constantLong RX7 206 (65521), Cond.fieldLink RX7 26 "DoorsThatRememberModel" "lodgers" "[I", Cond.fieldLink RX7 35 "DoorsThatRememberModel" "slot" "[I", Cond.fieldLink RX7 29 "DoorsThatRememberModel" "lodger" "[I", Cond.fieldLink RX7 17 "DoorsThatRememberModel" "doors" "[I", Cond.methodLink RX7 61 yX7_in, Cond.static yX7_in, Cond.initialized RX7, Cond.code yX7_in cX7_in 6 (some .boolean), Cond.methodLink RX7 126 yX7_copies, Cond.instanceMethod yX7_copies, Cond.selects RX7 yX7_copies yX7_copies, Cond.code yX7_copies cX7_copies 4 none, Cond.methodLink RX7 208 yX7_walks, Cond.instanceMethod yX7_walks, Cond.selects RX7 yX7_walks yX7_walks, Cond.code yX7_walks cX7_walks 6 none, Cond.methodLink RX7 171 yX7_firstOf, Cond.instanceMethod yX7_firstOf, Cond.selects RX7 yX7_firstOf yX7_firstOf]
def wsX7_week_r2 : List Cond := [Cond.code yX7_firstOf cX7_firstOf 7 (some .int), Cond.fieldLink RX7 41 "DoorsThatRememberModel" "far" "[I", Cond.methodLink RX7 167 yX7_wayOf, Cond.instanceMethod yX7_wayOf, Cond.selects RX7 yX7_wayOf yX7_wayOf, Cond.code yX7_wayOf cX7_wayOf 5 (some .int), Cond.constant RX7 159 (100000), Cond.methodLink RX7 160 yX7_ways, Cond.instanceMethod yX7_ways, Cond.selects RX7 yX7_ways yX7_ways, Cond.code yX7_ways cX7_ways 10 none, Cond.fieldLink RX7 20 "DoorsThatRememberModel" "door" "[I", Cond.methodLink RX7 130 yX7_costs, Cond.instanceMethod yX7_costs, Cond.selects RX7 yX7_costs yX7_costs, Cond.code yX7_costs cX7_costs 4 (some .int), Cond.methodLink RX7 142 yX7_isOf, Cond.instanceMethod yX7_isOf, Cond.selects RX7 yX7_isOf yX7_isOf, Cond.code yX7_isOf cX7_isOf 3 (some .boolean), Cond.methodLink RX7 138 yX7_over, Cond.instanceMethod yX7_over, Cond.selects RX7 yX7_over yX7_over, Cond.code yX7_over cX7_over 3 (some .int)]
def wsX7_week_r3 : List Cond := [Cond.methodLink RX7 149 yX7_goes, Cond.instanceMethod yX7_goes, Cond.selects RX7 yX7_goes yX7_goes, Cond.code yX7_goes cX7_goes 7 (some .int), Cond.methodLink RX7 134 yX7_becomes, Cond.instanceMethod yX7_becomes, Cond.selects RX7 yX7_becomes yX7_becomes, Cond.code yX7_becomes cX7_becomes 5 (some .int), Cond.fieldLink RX7 13 "DoorsThatRememberModel" "told" "[I", Cond.methodLink RX7 155 yX7_nights, Cond.instanceMethod yX7_nights, Cond.selects RX7 yX7_nights yX7_nights, Cond.code yX7_nights cX7_nights 8 none, Cond.fieldLink RX7 38 "DoorsThatRememberModel" "was" "[I", Cond.fieldLink RX7 23 "DoorsThatRememberModel" "draught" "[I"]
def wsX7_week : List Cond := .code yX7_week cX7_week 10 (some .int) :: ((wsX7_week_r1 ++ (wsX7_week_r2 ++ wsX7_week_r3)) ++ wsX70)
def wsX7_keep : List Cond := .code yX7_keep cX7_keep 1 (some .int) :: ([.fieldLink RX7 106 "DoorsThatRememberModel" "kept" "I", .methodLink RX7 126 yX7_copies, .instanceMethod yX7_copies, .selects RX7 yX7_copies yX7_copies, .initialized RX7, .code yX7_copies cX7_copies 4 none, .fieldLink RX7 35 "DoorsThatRememberModel" "slot" "[I"] ++ wsX70)
def wsX7_back : List Cond := .code yX7_back cX7_back 1 (some .int) :: ([.fieldLink RX7 106 "DoorsThatRememberModel" "kept" "I", .fieldLink RX7 103 "DoorsThatRememberModel" "done" "I", .methodLink RX7 126 yX7_copies, .instanceMethod yX7_copies, .selects RX7 yX7_copies yX7_copies, .initialized RX7, .code yX7_copies cX7_copies 4 none, .fieldLink RX7 35 "DoorsThatRememberModel" "slot" "[I"] ++ wsX70)
def wsX7_count : List Cond := .code yX7_count cX7_count 2 (some .int) :: ([.fieldLink RX7 13 "DoorsThatRememberModel" "told" "[I", .fieldLink RX7 17 "DoorsThatRememberModel" "doors" "[I", .fieldLink RX7 26 "DoorsThatRememberModel" "lodgers" "[I", .fieldLink RX7 35 "DoorsThatRememberModel" "slot" "[I", .fieldLink RX7 103 "DoorsThatRememberModel" "done" "I", .fieldLink RX7 106 "DoorsThatRememberModel" "kept" "I", .fieldLink RX7 65 "DoorsThatRememberModel" "length" "I"] ++ wsX70)
def wsJ9_max_7cf53 : List Cond := .code yJ9_max_7cf53 cJ9_max_7cf53 2 (some .int) :: ([])
def wsJ9_min_7cf53 : List Cond := .code yJ9_min_7cf53 cJ9_min_7cf53 2 (some .int) :: ([])
def wsL_law_r1 : List Cond := [Cond.classLink RL 7 RX6, Cond.instantiable RX6 9, Cond.initialized RX6, Cond.classLink RL 10 RX7, Cond.instantiable RX7 19, Cond.initialized RX7, Cond.constantLong RL 13 (4294967295), Cond.methodLink RL 9 yX6_init, Cond.instanceMethod yX6_init, Cond.code yX6_init cX6_init 1 none, Cond.methodLink RX6 1 objectInit, Cond.instanceMethod objectInit, Cond.code objectInit ⟨#[0xb1]⟩ 1 none, Cond.classLink RX6 7 RX4, Cond.instantiable RX4 4, Cond.initialized RX4, Cond.fieldLink RX6 10 "DoorsThatRemember" "text" "LDoorsThatRemember$Text;", Cond.classLink RX6 16 RX0, Cond.instantiable RX0 6, Cond.initialized RX0, Cond.fieldLink RX6 19 "DoorsThatRemember" "now" "LDoorsThatRemember$House;", Cond.fieldLink RX6 23 "DoorsThatRemember" "trial" "LDoorsThatRemember$House;", Cond.classLink RX6 26 RX1, Cond.instantiable RX1 2]
def wsL_law_r2 : List Cond := [Cond.initialized RX1, Cond.fieldLink RX6 31 "DoorsThatRemember" "undone" "LDoorsThatRemember$Past;", Cond.fieldLink RX6 35 "DoorsThatRemember" "kept" "LDoorsThatRemember$Past;", Cond.classLink RX6 38 RX5, Cond.instantiable RX5 2, Cond.initialized RX5, Cond.fieldLink RX6 41 "DoorsThatRemember" "ways" "LDoorsThatRemember$Ways;", Cond.classLink RX6 45 RX3, Cond.instantiable RX3 3, Cond.initialized RX3, Cond.fieldLink RX6 48 "DoorsThatRemember" "rooming" "LDoorsThatRemember$Rooming;", Cond.classLink RX6 52 RX2, Cond.instantiable RX2 15, Cond.initialized RX2, Cond.fieldLink RX6 55 "DoorsThatRemember" "plan" "LDoorsThatRemember$Plan;", Cond.fieldLink RX6 59 "DoorsThatRemember" "draft" "LDoorsThatRemember$Plan;", Cond.instanceMethod yX4_init, Cond.code yX4_init cX4_init 1 none, Cond.methodLink RX4 3 objectInit, Cond.arrayClass .int, Cond.fieldLink RX4 9 "DoorsThatRemember$Text" "bytes" "[I", Cond.fieldLink RX4 15 "DoorsThatRemember$Text" "numbers" "[I", Cond.instanceMethod yX0_init, Cond.code yX0_init cX0_init 1 none]
def wsL_law_r3 : List Cond := [Cond.methodLink RX0 3 objectInit, Cond.fieldLink RX0 9 "DoorsThatRemember$House" "grudges" "[I", Cond.fieldLink RX0 15 "DoorsThatRemember$House" "passing" "[I", Cond.fieldLink RX0 18 "DoorsThatRemember$House" "oilLeft" "[I", Cond.fieldLink RX0 21 "DoorsThatRemember$House" "place" "[I", Cond.methodLink RX6 28 yX1_init, Cond.instanceMethod yX1_init, Cond.code yX1_init cX1_init 3 none, Cond.methodLink RX1 1 objectInit, Cond.methodLink RX1 7 Lib.Math.max.name, Cond.static Lib.Math.max.name, Cond.initialized "java/lang/Math", Cond.code Lib.Math.max.name Lib.Math.max.code 2 (some .int), Cond.classLink RX1 13 RX0, Cond.fieldLink RX1 15 "DoorsThatRemember$Past" "slots" "[LDoorsThatRemember$House;", Cond.instanceMethod yX5_init, Cond.code yX5_init cX5_init 1 none, Cond.methodLink RX5 3 objectInit, Cond.fieldLink RX5 9 "DoorsThatRemember$Ways" "least" "[I", Cond.fieldLink RX5 15 "DoorsThatRemember$Ways" "price" "[I", Cond.instanceMethod yX3_init, Cond.code yX3_init cX3_init 1 none, Cond.methodLink RX3 3 objectInit, Cond.fieldLink RX3 9 "DoorsThatRemember$Rooming" "loss" "[I"]
def wsL_law_r4 : List Cond := [Cond.instanceMethod yX2_init, Cond.code yX2_init cX2_init 1 none, Cond.methodLink RX2 3 objectInit, Cond.fieldLink RX2 9 "DoorsThatRemember$Plan" "sideA" "[I", Cond.fieldLink RX2 15 "DoorsThatRemember$Plan" "sideB" "[I", Cond.fieldLink RX2 18 "DoorsThatRemember$Plan" "passTo" "[I", Cond.fieldLink RX2 21 "DoorsThatRemember$Plan" "draught" "[I", Cond.fieldLink RX2 24 "DoorsThatRemember$Plan" "home" "[I", Cond.fieldLink RX2 27 "DoorsThatRemember$Plan" "temper" "[I", Cond.fieldLink RX2 30 "DoorsThatRemember$Plan" "goal" "[I", Cond.fieldLink RX2 33 "DoorsThatRemember$Plan" "firstGrudges" "[I", Cond.fieldLink RX2 36 "DoorsThatRemember$Plan" "roomCount" "I", Cond.fieldLink RX2 40 "DoorsThatRemember$Plan" "tenths" "I", Cond.fieldLink RX2 43 "DoorsThatRemember$Plan" "fade" "I", Cond.fieldLink RX2 46 "DoorsThatRemember$Plan" "wear" "I", Cond.fieldLink RX2 49 "DoorsThatRemember$Plan" "oilLasts" "I", Cond.methodLink RX6 62 yX2_addDoor, Cond.instanceMethod yX2_addDoor, Cond.selects RX2 yX2_addDoor yX2_addDoor, Cond.code yX2_addDoor cX2_addDoor 4 none, Cond.fieldLink RX2 56 "DoorsThatRemember$Plan" "doorCount" "I", Cond.static yX6_put, Cond.code yX6_put cX6_put 3 none, Cond.methodLink RX6 66 yX2_addLodger]
def wsL_law_r5 : List Cond := [Cond.instanceMethod yX2_addLodger, Cond.selects RX2 yX2_addLodger yX2_addLodger, Cond.code yX2_addLodger cX2_addLodger 4 none, Cond.fieldLink RX2 59 "DoorsThatRemember$Plan" "lodgerCount" "I", Cond.methodLink RX6 69 yX0_beginAs, Cond.instanceMethod yX0_beginAs, Cond.selects RX0 yX0_beginAs yX0_beginAs, Cond.code yX0_beginAs cX0_beginAs 2 none, Cond.fieldLink RX0 40 "DoorsThatRemember$House" "minutes" "I", Cond.fieldLink RX0 44 "DoorsThatRemember$House" "nights" "I", Cond.static yX6_copy, Cond.code yX6_copy cX6_copy 3 none, Cond.static yX6_fill, Cond.code yX6_fill cX6_fill 3 none, Cond.methodLink RL 12 yX7_init, Cond.instanceMethod yX7_init, Cond.code yX7_init cX7_init 1 none, Cond.methodLink RX7 1 objectInit, Cond.arrayClass .byte, Cond.fieldLink RX7 7 "DoorsThatRememberModel" "text" "[B", Cond.fieldLink RX7 13 "DoorsThatRememberModel" "told" "[I", Cond.fieldLink RX7 17 "DoorsThatRememberModel" "doors" "[I", Cond.fieldLink RX7 20 "DoorsThatRememberModel" "door" "[I", Cond.fieldLink RX7 23 "DoorsThatRememberModel" "draught" "[I"]
def wsL_law_r6 : List Cond := [Cond.fieldLink RX7 26 "DoorsThatRememberModel" "lodgers" "[I", Cond.fieldLink RX7 29 "DoorsThatRememberModel" "lodger" "[I", Cond.fieldLink RX7 32 "DoorsThatRememberModel" "first" "[I", Cond.fieldLink RX7 35 "DoorsThatRememberModel" "slot" "[I", Cond.fieldLink RX7 38 "DoorsThatRememberModel" "was" "[I", Cond.fieldLink RX7 41 "DoorsThatRememberModel" "far" "[I", Cond.fieldLink RX7 44 "DoorsThatRememberModel" "row" "[I", Cond.fieldLink RX7 47 "DoorsThatRememberModel" "best" "[I", Cond.fieldLink RX7 50 "DoorsThatRememberModel" "got" "[I", Cond.methodLink RX7 53 yX7_begins, Cond.instanceMethod yX7_begins, Cond.selects RX7 yX7_begins yX7_begins, Cond.code yX7_begins cX7_begins 2 none, Cond.methodLink RX7 56 yX7_takes, Cond.instanceMethod yX7_takes, Cond.selects RX7 yX7_takes yX7_takes, Cond.code yX7_takes cX7_takes 2 none, Cond.fieldLink RX7 103 "DoorsThatRememberModel" "done" "I", Cond.fieldLink RX7 106 "DoorsThatRememberModel" "kept" "I", Cond.methodLink RL 15 yX6_write, Cond.instanceMethod yX6_write, Cond.selects RX6 yX6_write yX6_write, Cond.code yX6_write cX6_write 5 (some .int), Cond.methodLink RX6 73 yX6_within]
def wsL_law_r7 : List Cond := [Cond.static yX6_within, Cond.code yX6_within cX6_within 3 (some .boolean), Cond.methodLink RX6 81 yX4_append, Cond.instanceMethod yX4_append, Cond.selects RX4 yX4_append yX4_append, Cond.code yX4_append cX4_append 2 none, Cond.fieldLink RX4 18 "DoorsThatRemember$Text" "length" "I", Cond.methodLink RL 19 yX7_write, Cond.instanceMethod yX7_write, Cond.selects RX7 yX7_write yX7_write, Cond.code yX7_write cX7_write 5 (some .int), Cond.constantLong RX7 59 (8), Cond.fieldLink RX7 65 "DoorsThatRememberModel" "length" "I", Cond.methodLink RX7 61 yX7_in, Cond.static yX7_in, Cond.code yX7_in cX7_in 6 (some .boolean), Cond.methodLink RL 20 yX6_wipe, Cond.instanceMethod yX6_wipe, Cond.selects RX6 yX6_wipe yX6_wipe, Cond.code yX6_wipe cX6_wipe 2 (some .int), Cond.methodLink RL 24 yX7_wipe, Cond.instanceMethod yX7_wipe, Cond.selects RX7 yX7_wipe yX7_wipe, Cond.code yX7_wipe cX7_wipe 2 (some .int)]
def wsL_law_r8 : List Cond := [Cond.methodLink RL 25 yX6_fault, Cond.instanceMethod yX6_fault, Cond.selects RX6 yX6_fault yX6_fault, Cond.code yX6_fault cX6_fault 1 (some .int), Cond.methodLink RX6 84 yX4_readInto, Cond.instanceMethod yX4_readInto, Cond.selects RX4 yX4_readInto yX4_readInto, Cond.code yX4_readInto cX4_readInto 5 (some .int), Cond.fieldLink RX4 38 "DoorsThatRemember$Text" "told" "I", Cond.methodLink RX4 26 yX2_clear, Cond.instanceMethod yX2_clear, Cond.selects RX2 yX2_clear yX2_clear, Cond.code yX2_clear cX2_clear 1 none, Cond.methodLink RX4 31 yX4_scanItem, Cond.instanceMethod yX4_scanItem, Cond.selects RX4 yX4_scanItem yX4_scanItem, Cond.code yX4_scanItem cX4_scanItem 6 (some .int), Cond.methodLink RX4 45 yX4_figuresAt, Cond.instanceMethod yX4_figuresAt, Cond.selects RX4 yX4_figuresAt yX4_figuresAt, Cond.code yX4_figuresAt cX4_figuresAt 2 (some .int), Cond.methodLink RX4 52 yX4_isFigure, Cond.instanceMethod yX4_isFigure, Cond.selects RX4 yX4_isFigure yX4_isFigure]
def wsL_law_r9 : List Cond := [Cond.code yX4_isFigure cX4_isFigure 2 (some .boolean), Cond.methodLink RX4 35 yX4_byteAt, Cond.instanceMethod yX4_byteAt, Cond.selects RX4 yX4_byteAt yX4_byteAt, Cond.code yX4_byteAt cX4_byteAt 2 (some .int), Cond.static yX6_at, Cond.code yX6_at cX6_at 2 (some .int), Cond.methodLink RX4 48 yX4_numberAt, Cond.instanceMethod yX4_numberAt, Cond.selects RX4 yX4_numberAt yX4_numberAt, Cond.code yX4_numberAt cX4_numberAt 4 (some .int), Cond.methodLink RX4 41 yX2_take, Cond.instanceMethod yX2_take, Cond.selects RX2 yX2_take yX2_take, Cond.code yX2_take cX2_take 7 (some .boolean), Cond.methodLink RX2 70 yX2_takeRooms, Cond.instanceMethod yX2_takeRooms, Cond.selects RX2 yX2_takeRooms yX2_takeRooms, Cond.code yX2_takeRooms cX2_takeRooms 2 (some .boolean), Cond.methodLink RX2 74 yX2_takeDoor, Cond.instanceMethod yX2_takeDoor, Cond.selects RX2 yX2_takeDoor yX2_takeDoor, Cond.code yX2_takeDoor cX2_takeDoor 5 (some .boolean), Cond.methodLink RX2 100 yX2_addDoor]
def wsL_law_r10 : List Cond := [Cond.methodLink RX2 78 yX2_takeLodger, Cond.instanceMethod yX2_takeLodger, Cond.selects RX2 yX2_takeLodger yX2_takeLodger, Cond.code yX2_takeLodger cX2_takeLodger 5 (some .boolean), Cond.methodLink RX2 104 yX2_addLodger, Cond.methodLink RX2 81 yX2_takeGrudge, Cond.instanceMethod yX2_takeGrudge, Cond.selects RX2 yX2_takeGrudge yX2_takeGrudge, Cond.code yX2_takeGrudge cX2_takeGrudge 4 (some .boolean), Cond.methodLink RX2 84 yX2_takePassing, Cond.instanceMethod yX2_takePassing, Cond.selects RX2 yX2_takePassing yX2_takePassing, Cond.code yX2_takePassing cX2_takePassing 3 (some .boolean), Cond.methodLink RX2 88 yX2_takeWear, Cond.instanceMethod yX2_takeWear, Cond.selects RX2 yX2_takeWear yX2_takeWear, Cond.code yX2_takeWear cX2_takeWear 2 (some .boolean), Cond.methodLink RX2 91 yX2_takeOil, Cond.instanceMethod yX2_takeOil, Cond.selects RX2 yX2_takeOil yX2_takeOil, Cond.code yX2_takeOil cX2_takeOil 2 (some .boolean), Cond.methodLink RX2 94 yX2_takeDraught, Cond.instanceMethod yX2_takeDraught, Cond.selects RX2 yX2_takeDraught yX2_takeDraught]
def wsL_law_r11 : List Cond := [Cond.code yX2_takeDraught cX2_takeDraught 3 (some .boolean), Cond.methodLink RL 28 yX7_fault, Cond.instanceMethod yX7_fault, Cond.selects RX7 yX7_fault yX7_fault, Cond.code yX7_fault cX7_fault 2 (some .int), Cond.fieldLink RX7 69 "DoorsThatRememberModel" "at" "I", Cond.methodLink RX7 109 yX7_isItem, Cond.instanceMethod yX7_isItem, Cond.selects RX7 yX7_isItem yX7_isItem, Cond.code yX7_isItem cX7_isItem 5 (some .boolean), Cond.methodLink RX7 78 yX7_numbers, Cond.static yX7_numbers, Cond.code yX7_numbers cX7_numbers 1 (some .int), Cond.methodLink RX7 82 yX7_number, Cond.instanceMethod yX7_number, Cond.selects RX7 yX7_number yX7_number, Cond.code yX7_number cX7_number 3 (some .int), Cond.constantLong RX7 72 (48), Cond.constantLong RX7 74 (57), Cond.constantLong RX7 76 (2), Cond.methodLink RX7 86 yX7_isGood, Cond.instanceMethod yX7_isGood, Cond.selects RX7 yX7_isGood yX7_isGood, Cond.code yX7_isGood cX7_isGood 5 (some .boolean)]
def wsL_law_r12 : List Cond := [Cond.constantLong RX7 90 (6), Cond.constantLong RX7 96 (20), Cond.constantLong RX7 101 (9), Cond.methodLink RX7 92 yX7_isDoorPut, Cond.instanceMethod yX7_isDoorPut, Cond.selects RX7 yX7_isDoorPut yX7_isDoorPut, Cond.code yX7_isDoorPut cX7_isDoorPut 2 (some .boolean), Cond.methodLink RX7 98 yX7_isLodgerPut, Cond.instanceMethod yX7_isLodgerPut, Cond.selects RX7 yX7_isLodgerPut yX7_isLodgerPut, Cond.code yX7_isLodgerPut cX7_isLodgerPut 2 (some .boolean), Cond.methodLink RL 29 yX6_lay, Cond.instanceMethod yX6_lay, Cond.selects RX6 yX6_lay yX6_lay, Cond.code yX6_lay cX6_lay 2 (some .int), Cond.methodLink RX6 88 yX2_canStand, Cond.instanceMethod yX2_canStand, Cond.selects RX2 yX2_canStand yX2_canStand, Cond.code yX2_canStand cX2_canStand 2 (some .boolean), Cond.methodLink RX6 92 yX1_forgetAll, Cond.instanceMethod yX1_forgetAll, Cond.selects RX1 yX1_forgetAll yX1_forgetAll, Cond.code yX1_forgetAll cX1_forgetAll 1 none, Cond.fieldLink RX1 22 "DoorsThatRemember$Past" "size" "I"]
def wsL_law_r13 : List Cond := [Cond.methodLink RL 32 yX7_lay, Cond.instanceMethod yX7_lay, Cond.selects RX7 yX7_lay yX7_lay, Cond.code yX7_lay cX7_lay 1 (some .int), Cond.methodLink RX7 112 yX7_fault, Cond.methodLink RX7 115 yX7_isWhole, Cond.instanceMethod yX7_isWhole, Cond.selects RX7 yX7_isWhole yX7_isWhole, Cond.code yX7_isWhole cX7_isWhole 3 (some .boolean), Cond.methodLink RL 33 yX6_door, Cond.instanceMethod yX6_door, Cond.selects RX6 yX6_door yX6_door, Cond.code yX6_door cX6_door 3 (some .int), Cond.methodLink RX6 98 yX6_isDoor, Cond.instanceMethod yX6_isDoor, Cond.selects RX6 yX6_isDoor yX6_isDoor, Cond.code yX6_isDoor cX6_isDoor 2 (some .boolean), Cond.methodLink RX6 106 yX6_at, Cond.methodLink RL 37 yX7_door, Cond.instanceMethod yX7_door, Cond.selects RX7 yX7_door yX7_door, Cond.code yX7_door cX7_door 3 (some .int), Cond.constantLong RX7 121 (4), Cond.methodLink RX7 118 yX7_isDoor]
def wsL_law_r14 : List Cond := [Cond.instanceMethod yX7_isDoor, Cond.selects RX7 yX7_isDoor yX7_isDoor, Cond.code yX7_isDoor cX7_isDoor 2 (some .boolean), Cond.methodLink RL 38 yX6_lodger, Cond.instanceMethod yX6_lodger, Cond.selects RX6 yX6_lodger yX6_lodger, Cond.code yX6_lodger cX6_lodger 3 (some .int), Cond.methodLink RX6 122 yX6_isLodger, Cond.instanceMethod yX6_isLodger, Cond.selects RX6 yX6_isLodger yX6_isLodger, Cond.code yX6_isLodger cX6_isLodger 2 (some .boolean), Cond.methodLink RL 41 yX7_lodger, Cond.instanceMethod yX7_lodger, Cond.selects RX7 yX7_lodger yX7_lodger, Cond.code yX7_lodger cX7_lodger 3 (some .int), Cond.methodLink RX7 123 yX7_isLodger, Cond.instanceMethod yX7_isLodger, Cond.selects RX7 yX7_isLodger yX7_isLodger, Cond.code yX7_isLodger cX7_isLodger 2 (some .boolean), Cond.methodLink RL 42 yX6_grudge, Cond.instanceMethod yX6_grudge, Cond.selects RX6 yX6_grudge yX6_grudge, Cond.code yX6_grudge cX6_grudge 3 (some .int), Cond.methodLink RX6 134 yX0_grudgeOf]
def wsL_law_r15 : List Cond := [Cond.instanceMethod yX0_grudgeOf, Cond.selects RX0 yX0_grudgeOf yX0_grudgeOf, Cond.code yX0_grudgeOf cX0_grudgeOf 3 (some .int), Cond.methodLink RL 45 yX7_grudge, Cond.instanceMethod yX7_grudge, Cond.selects RX7 yX7_grudge yX7_grudge, Cond.code yX7_grudge cX7_grudge 3 (some .int), Cond.methodLink RL 46 yX6_go, Cond.instanceMethod yX6_go, Cond.selects RX6 yX6_go yX6_go, Cond.code yX6_go cX6_go 4 (some .int), Cond.methodLink RX6 138 yX2_otherSide, Cond.instanceMethod yX2_otherSide, Cond.selects RX2 yX2_otherSide yX2_otherSide, Cond.code yX2_otherSide cX2_otherSide 3 (some .int), Cond.methodLink RX6 141 yX1_push, Cond.instanceMethod yX1_push, Cond.selects RX1 yX1_push yX1_push, Cond.code yX1_push cX1_push 3 none, Cond.methodLink RX1 26 yX1_dropOldest, Cond.instanceMethod yX1_dropOldest, Cond.selects RX1 yX1_dropOldest yX1_dropOldest, Cond.code yX1_dropOldest cX1_dropOldest 3 none, Cond.methodLink RX1 29 yX1_slotAt]
def wsL_law_r16 : List Cond := [Cond.instanceMethod yX1_slotAt, Cond.selects RX1 yX1_slotAt yX1_slotAt, Cond.code yX1_slotAt cX1_slotAt 2 (some (.object "DoorsThatRemember$House")), Cond.methodLink RX1 33 yX0_become, Cond.instanceMethod yX0_become, Cond.selects RX0 yX0_become yX0_become, Cond.code yX0_become cX0_become 2 none, Cond.methodLink RX6 145 yX0_passThrough, Cond.instanceMethod yX0_passThrough, Cond.selects RX0 yX0_passThrough yX0_passThrough, Cond.code yX0_passThrough cX0_passThrough 6 (some .int), Cond.methodLink RX0 63 yX0_minutesThrough, Cond.instanceMethod yX0_minutesThrough, Cond.selects RX0 yX0_minutesThrough yX0_minutesThrough, Cond.code yX0_minutesThrough cX0_minutesThrough 3 (some .int), Cond.methodLink RX0 55 yX0_isOiled, Cond.instanceMethod yX0_isOiled, Cond.selects RX0 yX0_isOiled yX0_isOiled, Cond.code yX0_isOiled cX0_isOiled 2 (some .boolean), Cond.methodLink RX0 59 yX0_grudgeOf, Cond.methodLink RX0 66 yX2_otherSide, Cond.methodLink RX0 69 yX2_grudgeNext, Cond.instanceMethod yX2_grudgeNext, Cond.selects RX2 yX2_grudgeNext yX2_grudgeNext]
def wsL_law_r17 : List Cond := [Cond.code yX2_grudgeNext cX2_grudgeNext 4 (some .int), Cond.static yX6_grown, Cond.code yX6_grown cX6_grown 2 (some .int), Cond.methodLink RX6 226 Lib.Math.min.name, Cond.static Lib.Math.min.name, Cond.code Lib.Math.min.name Lib.Math.min.code 2 (some .int), Cond.static yX6_worn, Cond.code yX6_worn cX6_worn 2 (some .int), Cond.methodLink RX6 262 Lib.Math.max.name, Cond.methodLink RX0 73 yX0_setGrudge, Cond.instanceMethod yX0_setGrudge, Cond.selects RX0 yX0_setGrudge yX0_setGrudge, Cond.code yX0_setGrudge cX0_setGrudge 4 none, Cond.methodLink RL 50 yX7_go, Cond.instanceMethod yX7_go, Cond.selects RX7 yX7_go yX7_go, Cond.code yX7_go cX7_go 4 (some .int), Cond.methodLink RX7 142 yX7_isOf, Cond.instanceMethod yX7_isOf, Cond.selects RX7 yX7_isOf yX7_isOf, Cond.code yX7_isOf cX7_isOf 3 (some .boolean), Cond.methodLink RX7 146 yX7_known, Cond.instanceMethod yX7_known, Cond.selects RX7 yX7_known yX7_known]
def wsL_law_r18 : List Cond := [Cond.code yX7_known cX7_known 2 none, Cond.methodLink RX7 126 yX7_copies, Cond.instanceMethod yX7_copies, Cond.selects RX7 yX7_copies yX7_copies, Cond.code yX7_copies cX7_copies 4 none, Cond.methodLink RX7 149 yX7_goes, Cond.instanceMethod yX7_goes, Cond.selects RX7 yX7_goes yX7_goes, Cond.code yX7_goes cX7_goes 7 (some .int), Cond.methodLink RX7 130 yX7_costs, Cond.instanceMethod yX7_costs, Cond.selects RX7 yX7_costs yX7_costs, Cond.code yX7_costs cX7_costs 4 (some .int), Cond.methodLink RX7 134 yX7_becomes, Cond.instanceMethod yX7_becomes, Cond.selects RX7 yX7_becomes yX7_becomes, Cond.code yX7_becomes cX7_becomes 5 (some .int), Cond.methodLink RX7 138 yX7_over, Cond.instanceMethod yX7_over, Cond.selects RX7 yX7_over yX7_over, Cond.code yX7_over cX7_over 3 (some .int), Cond.methodLink RL 51 yX6_oil, Cond.instanceMethod yX6_oil, Cond.selects RX6 yX6_oil yX6_oil]
def wsL_law_r19 : List Cond := [Cond.code yX6_oil cX6_oil 2 (some .int), Cond.methodLink RX6 152 yX6_put, Cond.methodLink RX6 156 yX0_oiledDoors, Cond.instanceMethod yX0_oiledDoors, Cond.selects RX0 yX0_oiledDoors yX0_oiledDoors, Cond.code yX0_oiledDoors cX0_oiledDoors 3 (some .int), Cond.methodLink RL 55 yX7_oil, Cond.instanceMethod yX7_oil, Cond.selects RX7 yX7_oil yX7_oil, Cond.code yX7_oil cX7_oil 4 (some .int), Cond.methodLink RL 56 yX6_night, Cond.instanceMethod yX6_night, Cond.selects RX6 yX6_night yX6_night, Cond.code yX6_night cX6_night 3 (some .int), Cond.methodLink RX6 163 yX0_sleep, Cond.instanceMethod yX0_sleep, Cond.selects RX0 yX0_sleep yX0_sleep, Cond.code yX0_sleep cX0_sleep 3 none, Cond.methodLink RX0 80 yX0_passOn, Cond.instanceMethod yX0_passOn, Cond.selects RX0 yX0_passOn yX0_passOn, Cond.code yX0_passOn cX0_passOn 6 none, Cond.methodLink RX0 84 yX0_dryOil, Cond.instanceMethod yX0_dryOil]
def wsL_law_r20 : List Cond := [Cond.selects RX0 yX0_dryOil yX0_dryOil, Cond.code yX0_dryOil cX0_dryOil 2 none, Cond.methodLink RX0 108 Lib.Math.max.name, Cond.methodLink RL 59 yX7_night, Cond.instanceMethod yX7_night, Cond.selects RX7 yX7_night yX7_night, Cond.code yX7_night cX7_night 3 (some .int), Cond.constantLong RX7 153 (60), Cond.methodLink RX7 155 yX7_nights, Cond.instanceMethod yX7_nights, Cond.selects RX7 yX7_nights yX7_nights, Cond.code yX7_nights cX7_nights 8 none, Cond.methodLink RL 60 yX6_undo, Cond.instanceMethod yX6_undo, Cond.selects RX6 yX6_undo yX6_undo, Cond.code yX6_undo cX6_undo 1 (some .int), Cond.methodLink RX6 166 yX1_pop, Cond.instanceMethod yX1_pop, Cond.selects RX1 yX1_pop yX1_pop, Cond.code yX1_pop cX1_pop 3 (some .boolean), Cond.methodLink RL 63 yX7_undo, Cond.instanceMethod yX7_undo, Cond.selects RX7 yX7_undo yX7_undo, Cond.code yX7_undo cX7_undo 1 (some .int)]
def wsL_law_r21 : List Cond := [Cond.methodLink RL 64 yX6_way, Cond.instanceMethod yX6_way, Cond.selects RX6 yX6_way yX6_way, Cond.code yX6_way cX6_way 4 (some .int), Cond.methodLink RX6 173 yX6_isRoom, Cond.instanceMethod yX6_isRoom, Cond.selects RX6 yX6_isRoom yX6_isRoom, Cond.code yX6_isRoom cX6_isRoom 2 (some .boolean), Cond.methodLink RX6 176 yX5_measure, Cond.instanceMethod yX5_measure, Cond.selects RX5 yX5_measure yX5_measure, Cond.code yX5_measure cX5_measure 8 none, Cond.constant RX5 38 (1000000), Cond.static yX6_holds, Cond.code yX6_holds cX6_holds 2 (some .boolean), Cond.methodLink RX5 28 yX0_minutesThrough, Cond.methodLink RX5 46 yX5_shorten, Cond.instanceMethod yX5_shorten, Cond.selects RX5 yX5_shorten yX5_shorten, Cond.code yX5_shorten cX5_shorten 8 (some .boolean), Cond.methodLink RX6 180 yX5_minutesFrom, Cond.instanceMethod yX5_minutesFrom, Cond.selects RX5 yX5_minutesFrom yX5_minutesFrom, Cond.code yX5_minutesFrom cX5_minutesFrom 2 (some .int)]
def wsL_law_r22 : List Cond := [Cond.methodLink RL 68 yX7_way, Cond.instanceMethod yX7_way, Cond.selects RX7 yX7_way yX7_way, Cond.code yX7_way cX7_way 4 (some .int), Cond.methodLink RX7 164 yX7_isRoom, Cond.instanceMethod yX7_isRoom, Cond.selects RX7 yX7_isRoom yX7_isRoom, Cond.code yX7_isRoom cX7_isRoom 2 (some .boolean), Cond.methodLink RX7 167 yX7_wayOf, Cond.instanceMethod yX7_wayOf, Cond.selects RX7 yX7_wayOf yX7_wayOf, Cond.code yX7_wayOf cX7_wayOf 5 (some .int), Cond.constant RX7 159 (100000), Cond.methodLink RX7 160 yX7_ways, Cond.instanceMethod yX7_ways, Cond.selects RX7 yX7_ways yX7_ways, Cond.code yX7_ways cX7_ways 10 none, Cond.methodLink RL 69 yX6_first, Cond.instanceMethod yX6_first, Cond.selects RX6 yX6_first yX6_first, Cond.code yX6_first cX6_first 4 (some .int), Cond.methodLink RX6 184 yX5_lowestDoorFrom, Cond.instanceMethod yX5_lowestDoorFrom, Cond.selects RX5 yX5_lowestDoorFrom yX5_lowestDoorFrom]
def wsL_law_r23 : List Cond := [Cond.code yX5_lowestDoorFrom cX5_lowestDoorFrom 5 (some .int), Cond.methodLink RX5 60 yX5_minutesFrom, Cond.methodLink RX5 64 yX2_otherSide, Cond.methodLink RL 72 yX7_first, Cond.instanceMethod yX7_first, Cond.selects RX7 yX7_first yX7_first, Cond.code yX7_first cX7_first 4 (some .int), Cond.methodLink RX7 171 yX7_firstOf, Cond.instanceMethod yX7_firstOf, Cond.selects RX7 yX7_firstOf yX7_firstOf, Cond.code yX7_firstOf cX7_firstOf 7 (some .int), Cond.methodLink RL 73 yX6_inTime, Cond.instanceMethod yX6_inTime, Cond.selects RX6 yX6_inTime yX6_inTime, Cond.code yX6_inTime cX6_inTime 6 (some .int), Cond.methodLink RX6 188 yJ6_bitCount_0f7a4, Cond.static yJ6_bitCount_0f7a4, Cond.initialized RJ6, Cond.code yJ6_bitCount_0f7a4 cJ6_bitCount_0f7a4 1 (some .int), Cond.constant RJ6 265 (1431655765), Cond.constant RJ6 266 (858993459), Cond.constant RJ6 267 (252645135), Cond.methodLink RX6 193 yX6_isInTimeWith, Cond.instanceMethod yX6_isInTimeWith]
def wsL_law_r24 : List Cond := [Cond.selects RX6 yX6_isInTimeWith yX6_isInTimeWith, Cond.code yX6_isInTimeWith cX6_isInTimeWith 5 (some .boolean), Cond.methodLink RL 76 yX7_inTime, Cond.instanceMethod yX7_inTime, Cond.selects RX7 yX7_inTime yX7_inTime, Cond.code yX7_inTime cX7_inTime 5 (some .int), Cond.constantLong RX7 174 (600), Cond.methodLink RX7 176 yX7_many, Cond.static yX7_many, Cond.code yX7_many cX7_many 3 (some .int), Cond.methodLink RL 77 yX6_rooms, Cond.instanceMethod yX6_rooms, Cond.selects RX6 yX6_rooms yX6_rooms, Cond.code yX6_rooms cX6_rooms 3 (some .int), Cond.methodLink RX6 196 yX3_measure, Cond.instanceMethod yX3_measure, Cond.selects RX3 yX3_measure yX3_measure, Cond.code yX3_measure cX3_measure 6 none, Cond.fieldLink RX3 21 "DoorsThatRemember$Rooming" "lodgerCount" "I", Cond.fieldLink RX3 25 "DoorsThatRemember$Rooming" "roomCount" "I", Cond.methodLink RX3 33 yX5_measure, Cond.methodLink RX3 39 yX5_minutesFrom, Cond.methodLink RX6 199 yX3_bestCode, Cond.instanceMethod yX3_bestCode]
def wsL_law_r25 : List Cond := [Cond.selects RX3 yX3_bestCode yX3_bestCode, Cond.code yX3_bestCode cX3_bestCode 6 (some .int), Cond.constant RX3 47 (1000000), Cond.methodLink RX3 48 yX3_sumOf, Cond.instanceMethod yX3_sumOf, Cond.selects RX3 yX3_sumOf yX3_sumOf, Cond.code yX3_sumOf cX3_sumOf 8 (some .int), Cond.methodLink RX6 202 yX3_sumOf, Cond.methodLink RX6 205 yX3_roomIn, Cond.instanceMethod yX3_roomIn, Cond.selects RX3 yX3_roomIn yX3_roomIn, Cond.code yX3_roomIn cX3_roomIn 5 (some .int), Cond.methodLink RL 80 yX7_rooms, Cond.instanceMethod yX7_rooms, Cond.selects RX7 yX7_rooms yX7_rooms, Cond.code yX7_rooms cX7_rooms 6 (some .int), Cond.constantLong RX7 179 (-1), Cond.fieldLink RX7 181 "DoorsThatRememberModel" "least" "I", Cond.methodLink RX7 184 yX7_tries, Cond.instanceMethod yX7_tries, Cond.selects RX7 yX7_tries yX7_tries, Cond.code yX7_tries cX7_tries 5 none, Cond.methodLink RL 81 yX6_behind, Cond.instanceMethod yX6_behind]
def wsL_law_r26 : List Cond := [Cond.selects RX6 yX6_behind yX6_behind, Cond.code yX6_behind cX6_behind 4 (some .int), Cond.methodLink RX6 208 yX0_become, Cond.methodLink RX6 211 yX0_sleepAgainstOne, Cond.instanceMethod yX0_sleepAgainstOne, Cond.selects RX0 yX0_sleepAgainstOne yX0_sleepAgainstOne, Cond.code yX0_sleepAgainstOne cX0_sleepAgainstOne 5 none, Cond.methodLink RL 84 yX7_behind, Cond.instanceMethod yX7_behind, Cond.selects RX7 yX7_behind yX7_behind, Cond.code yX7_behind cX7_behind 4 (some .int), Cond.methodLink RX7 187 yX7_isBehind, Cond.static yX7_isBehind, Cond.code yX7_isBehind cX7_isBehind 1 (some .boolean), Cond.methodLink RX7 190 yX7_behinds, Cond.instanceMethod yX7_behinds, Cond.selects RX7 yX7_behinds yX7_behinds, Cond.code yX7_behinds cX7_behinds 4 none, Cond.methodLink RL 85 yX6_worst, Cond.instanceMethod yX6_worst, Cond.selects RX6 yX6_worst yX6_worst, Cond.code yX6_worst cX6_worst 5 (some .int), Cond.methodLink RL 88 yX7_worst, Cond.instanceMethod yX7_worst]
def wsL_law_r27 : List Cond := [Cond.selects RX7 yX7_worst yX7_worst, Cond.code yX7_worst cX7_worst 5 (some .int), Cond.methodLink RL 89 yX6_stop, Cond.instanceMethod yX6_stop, Cond.selects RX6 yX6_stop yX6_stop, Cond.code yX6_stop cX6_stop 9 (some .int), Cond.methodLink RX6 215 yX6_holds, Cond.methodLink RX6 219 yX6_grudgeBehindWith, Cond.instanceMethod yX6_grudgeBehindWith, Cond.selects RX6 yX6_grudgeBehindWith yX6_grudgeBehindWith, Cond.code yX6_grudgeBehindWith cX6_grudgeBehindWith 6 (some .int), Cond.methodLink RL 93 yX7_stop, Cond.instanceMethod yX7_stop, Cond.selects RX7 yX7_stop yX7_stop, Cond.code yX7_stop cX7_stop 7 (some .int), Cond.constantLong RX7 193 (99), Cond.methodLink RL 94 yX6_how, Cond.instanceMethod yX6_how, Cond.selects RX6 yX6_how yX6_how, Cond.code yX6_how cX6_how 10 (some .int), Cond.methodLink RX6 223 yX2_grudgeAfter, Cond.instanceMethod yX2_grudgeAfter, Cond.selects RX2 yX2_grudgeAfter yX2_grudgeAfter, Cond.code yX2_grudgeAfter cX2_grudgeAfter 7 (some .int)]
def wsL_law_r28 : List Cond := [Cond.methodLink RX2 117 yX2_grudgeNext, Cond.methodLink RL 98 yX7_how, Cond.instanceMethod yX7_how, Cond.selects RX7 yX7_how yX7_how, Cond.code yX7_how cX7_how 11 (some .int), Cond.constantLong RX7 195 (100), Cond.methodLink RL 99 yX6_fresh, Cond.instanceMethod yX6_fresh, Cond.selects RX6 yX6_fresh yX6_fresh, Cond.code yX6_fresh cX6_fresh 4 (some .int), Cond.methodLink RX6 231 yX6_grudgeAgainstNew, Cond.instanceMethod yX6_grudgeAgainstNew, Cond.selects RX6 yX6_grudgeAgainstNew yX6_grudgeAgainstNew, Cond.code yX6_grudgeAgainstNew cX6_grudgeAgainstNew 2 (some .int), Cond.methodLink RX6 255 yX0_grudgesOfDoor, Cond.instanceMethod yX0_grudgesOfDoor, Cond.selects RX0 yX0_grudgesOfDoor yX0_grudgesOfDoor, Cond.code yX0_grudgesOfDoor cX0_grudgesOfDoor 5 (some .int), Cond.methodLink RL 102 yX7_fresh, Cond.instanceMethod yX7_fresh, Cond.selects RX7 yX7_fresh yX7_fresh, Cond.code yX7_fresh cX7_fresh 4 (some .int), Cond.methodLink RX7 197 yX7_news, Cond.instanceMethod yX7_news]
def wsL_law_r29 : List Cond := [Cond.selects RX7 yX7_news yX7_news, Cond.code yX7_news cX7_news 4 (some .int), Cond.methodLink RL 103 yX6_week, Cond.instanceMethod yX6_week, Cond.selects RX6 yX6_week yX6_week, Cond.code yX6_week cX6_week 7 (some .int), Cond.constantLong RX6 234 (7919), Cond.constantLong RX6 236 (6151), Cond.constantLong RX6 238 (65521), Cond.methodLink RX6 240 yX6_goThereAndBack, Cond.instanceMethod yX6_goThereAndBack, Cond.selects RX6 yX6_goThereAndBack yX6_goThereAndBack, Cond.code yX6_goThereAndBack cX6_goThereAndBack 5 none, Cond.methodLink RX6 258 yX6_goTo, Cond.instanceMethod yX6_goTo, Cond.selects RX6 yX6_goTo yX6_goTo, Cond.code yX6_goTo cX6_goTo 6 none, Cond.methodLink RX6 246 yX0_allGrudges, Cond.instanceMethod yX0_allGrudges, Cond.selects RX0 yX0_allGrudges yX0_allGrudges, Cond.code yX0_allGrudges cX0_allGrudges 4 (some .int), Cond.methodLink RX0 113 yX0_grudgesOfDoor, Cond.methodLink RL 106 yX7_week, Cond.instanceMethod yX7_week]
def wsL_law_r30 : List Cond := [Cond.selects RX7 yX7_week yX7_week, Cond.code yX7_week cX7_week 10 (some .int), Cond.constantLong RX7 200 (9999), Cond.constantLong RX7 202 (7919), Cond.constantLong RX7 204 (6151), Cond.constantLong RX7 206 (65521), Cond.methodLink RX7 208 yX7_walks, Cond.instanceMethod yX7_walks, Cond.selects RX7 yX7_walks yX7_walks, Cond.code yX7_walks cX7_walks 6 none, Cond.methodLink RL 107 yX6_keep, Cond.instanceMethod yX6_keep, Cond.selects RX6 yX6_keep yX6_keep, Cond.code yX6_keep cX6_keep 1 (some .int), Cond.methodLink RL 110 yX7_keep, Cond.instanceMethod yX7_keep, Cond.selects RX7 yX7_keep yX7_keep, Cond.code yX7_keep cX7_keep 1 (some .int), Cond.methodLink RL 111 yX6_back, Cond.instanceMethod yX6_back, Cond.selects RX6 yX6_back yX6_back, Cond.code yX6_back cX6_back 1 (some .int), Cond.methodLink RL 114 yX7_back, Cond.instanceMethod yX7_back]
def wsL_law_r31 : List Cond := [Cond.selects RX7 yX7_back yX7_back, Cond.code yX7_back cX7_back 1 (some .int), Cond.methodLink RL 115 yX6_count, Cond.instanceMethod yX6_count, Cond.selects RX6 yX6_count yX6_count, Cond.code yX6_count cX6_count 2 (some .int), Cond.methodLink RL 118 yX7_count, Cond.instanceMethod yX7_count, Cond.selects RX7 yX7_count yX7_count, Cond.code yX7_count cX7_count 2 (some .int)]
def wsL_law : List Cond := (wsL_law_r1 ++ (wsL_law_r2 ++ (wsL_law_r3 ++ (wsL_law_r4 ++ (wsL_law_r5 ++ (wsL_law_r6 ++ (wsL_law_r7 ++ (wsL_law_r8 ++ (wsL_law_r9 ++ (wsL_law_r10 ++ (wsL_law_r11 ++ (wsL_law_r12 ++ (wsL_law_r13 ++ (wsL_law_r14 ++ (wsL_law_r15 ++ (wsL_law_r16 ++ (wsL_law_r17 ++ (wsL_law_r18 ++ (wsL_law_r19 ++ (wsL_law_r20 ++ (wsL_law_r21 ++ (wsL_law_r22 ++ (wsL_law_r23 ++ (wsL_law_r24 ++ (wsL_law_r25 ++ (wsL_law_r26 ++ (wsL_law_r27 ++ (wsL_law_r28 ++ (wsL_law_r29 ++ (wsL_law_r30 ++ wsL_law_r31)))))))))))))))))))))))))))))) ++ wsX60 ++ wsX70 ++ wsX40 ++ wsX00 ++ wsX10 ++ wsX50 ++ wsX30 ++ wsX20 ++ ([] : List Cond)
abbrev vwCl : List vw_C := [(RX0, TX0, 6), (RX1, TX1, 2), (RX2, TX2, 15), (RX3, TX3, 3), (RX4, TX4, 4), (RX5, TX5, 2), (RX6, TX6, 9), (RX7, TX7, 19)]
end
section
theorem dX0_init_0 : decode cX0_init 0 = .ok (.aload_n 0, 1) := by decide +kernel
theorem dX0_init_1 : decode cX0_init 1 = .ok (.invokespecial 3, 3) := by decide +kernel
theorem dX0_init_4 : decode cX0_init 4 = .ok (.aload_n 0, 1) := by decide +kernel
theorem dX0_init_5 : decode cX0_init 5 = .ok (.bipush 32, 2) := by decide +kernel
theorem dX0_init_7 : decode cX0_init 7 = .ok (.newarray .int, 2) := by decide +kernel
theorem dX0_init_9 : decode cX0_init 9 = .ok (.putfield 9, 3) := by decide +kernel
theorem dX0_init_12 : decode cX0_init 12 = .ok (.aload_n 0, 1) := by decide +kernel
theorem dX0_init_13 : decode cX0_init 13 = .ok (.bipush 8, 2) := by decide +kernel
theorem dX0_init_15 : decode cX0_init 15 = .ok (.newarray .int, 2) := by decide +kernel
theorem dX0_init_17 : decode cX0_init 17 = .ok (.putfield 15, 3) := by decide +kernel
theorem dX0_init_20 : decode cX0_init 20 = .ok (.aload_n 0, 1) := by decide +kernel
theorem dX0_init_21 : decode cX0_init 21 = .ok (.bipush 8, 2) := by decide +kernel
theorem dX0_init_23 : decode cX0_init 23 = .ok (.newarray .int, 2) := by decide +kernel
theorem dX0_init_25 : decode cX0_init 25 = .ok (.putfield 18, 3) := by decide +kernel
theorem dX0_init_28 : decode cX0_init 28 = .ok (.aload_n 0, 1) := by decide +kernel
theorem dX0_init_29 : decode cX0_init 29 = .ok (.iconst 4, 1) := by decide +kernel
theorem dX0_init_30 : decode cX0_init 30 = .ok (.newarray .int, 2) := by decide +kernel
theorem dX0_init_32 : decode cX0_init 32 = .ok (.putfield 21, 3) := by decide +kernel
theorem dX0_init_35 : decode cX0_init 35 = .ok (.return_, 1) := by decide +kernel
set_option maxRecDepth 20000 in
theorem ggX0_beginAs_X6_copy : GoodIn wsX0_beginAs wsX6_copy := goodIn_r _ [8] (by decide +kernel) (by decide +kernel)
set_option maxRecDepth 20000 in
theorem gX0_beginAs_X6_copy_n29 : GoodIn wsX0_beginAs (wsX6_copy) := ggX0_beginAs_X6_copy
set_option maxRecDepth 20000 in
theorem ggX0_beginAs_X6_fill : GoodIn wsX0_beginAs wsX6_fill := goodIn_r _ [10] (by decide +kernel) (by decide +kernel)
set_option maxRecDepth 20000 in
theorem gX0_beginAs_X6_fill_n36 : GoodIn wsX0_beginAs (wsX6_fill) := ggX0_beginAs_X6_fill
theorem dX0_beginAs_0 : decode cX0_beginAs 0 = .ok (.aload_n 1, 1) := by decide +kernel
theorem dX0_beginAs_1 : decode cX0_beginAs 1 = .ok (.getfield 24, 3) := by decide +kernel
theorem dX0_beginAs_4 : decode cX0_beginAs 4 = .ok (.aload_n 0, 1) := by decide +kernel
theorem dX0_beginAs_5 : decode cX0_beginAs 5 = .ok (.getfield 9, 3) := by decide +kernel
theorem dX0_beginAs_8 : decode cX0_beginAs 8 = .ok (.invokestatic 29, 3) := by decide +kernel
theorem dX0_beginAs_11 : decode cX0_beginAs 11 = .ok (.aload_n 1, 1) := by decide +kernel
theorem dX0_beginAs_12 : decode cX0_beginAs 12 = .ok (.getfield 33, 3) := by decide +kernel
theorem dX0_beginAs_15 : decode cX0_beginAs 15 = .ok (.aload_n 0, 1) := by decide +kernel
theorem dX0_beginAs_16 : decode cX0_beginAs 16 = .ok (.getfield 21, 3) := by decide +kernel
theorem dX0_beginAs_19 : decode cX0_beginAs 19 = .ok (.invokestatic 29, 3) := by decide +kernel
theorem dX0_beginAs_22 : decode cX0_beginAs 22 = .ok (.aload_n 0, 1) := by decide +kernel
theorem dX0_beginAs_23 : decode cX0_beginAs 23 = .ok (.getfield 18, 3) := by decide +kernel
theorem dX0_beginAs_26 : decode cX0_beginAs 26 = .ok (.iconst 0, 1) := by decide +kernel
theorem dX0_beginAs_27 : decode cX0_beginAs 27 = .ok (.invokestatic 36, 3) := by decide +kernel
theorem dX0_beginAs_30 : decode cX0_beginAs 30 = .ok (.aload_n 0, 1) := by decide +kernel
theorem dX0_beginAs_31 : decode cX0_beginAs 31 = .ok (.iconst 0, 1) := by decide +kernel
theorem dX0_beginAs_32 : decode cX0_beginAs 32 = .ok (.putfield 40, 3) := by decide +kernel
theorem dX0_beginAs_35 : decode cX0_beginAs 35 = .ok (.aload_n 0, 1) := by decide +kernel
theorem dX0_beginAs_36 : decode cX0_beginAs 36 = .ok (.iconst 0, 1) := by decide +kernel
theorem dX0_beginAs_37 : decode cX0_beginAs 37 = .ok (.putfield 44, 3) := by decide +kernel
theorem dX0_beginAs_40 : decode cX0_beginAs 40 = .ok (.return_, 1) := by decide +kernel
set_option maxRecDepth 20000 in
theorem ggX0_become_X6_copy : GoodIn wsX0_become wsX6_copy := goodIn_r _ [8] (by decide +kernel) (by decide +kernel)
set_option maxRecDepth 20000 in
theorem gX0_become_X6_copy_n29 : GoodIn wsX0_become (wsX6_copy) := ggX0_become_X6_copy
theorem dX0_become_0 : decode cX0_become 0 = .ok (.aload_n 1, 1) := by decide +kernel
theorem dX0_become_1 : decode cX0_become 1 = .ok (.getfield 9, 3) := by decide +kernel
theorem dX0_become_4 : decode cX0_become 4 = .ok (.aload_n 0, 1) := by decide +kernel
theorem dX0_become_5 : decode cX0_become 5 = .ok (.getfield 9, 3) := by decide +kernel
theorem dX0_become_8 : decode cX0_become 8 = .ok (.invokestatic 29, 3) := by decide +kernel
theorem dX0_become_11 : decode cX0_become 11 = .ok (.aload_n 1, 1) := by decide +kernel
theorem dX0_become_12 : decode cX0_become 12 = .ok (.getfield 18, 3) := by decide +kernel
theorem dX0_become_15 : decode cX0_become 15 = .ok (.aload_n 0, 1) := by decide +kernel
theorem dX0_become_16 : decode cX0_become 16 = .ok (.getfield 18, 3) := by decide +kernel
theorem dX0_become_19 : decode cX0_become 19 = .ok (.invokestatic 29, 3) := by decide +kernel
theorem dX0_become_22 : decode cX0_become 22 = .ok (.aload_n 1, 1) := by decide +kernel
theorem dX0_become_23 : decode cX0_become 23 = .ok (.getfield 21, 3) := by decide +kernel
theorem dX0_become_26 : decode cX0_become 26 = .ok (.aload_n 0, 1) := by decide +kernel
theorem dX0_become_27 : decode cX0_become 27 = .ok (.getfield 21, 3) := by decide +kernel
theorem dX0_become_30 : decode cX0_become 30 = .ok (.invokestatic 29, 3) := by decide +kernel
theorem dX0_become_33 : decode cX0_become 33 = .ok (.aload_n 0, 1) := by decide +kernel
theorem dX0_become_34 : decode cX0_become 34 = .ok (.aload_n 1, 1) := by decide +kernel
theorem dX0_become_35 : decode cX0_become 35 = .ok (.getfield 40, 3) := by decide +kernel
theorem dX0_become_38 : decode cX0_become 38 = .ok (.putfield 40, 3) := by decide +kernel
theorem dX0_become_41 : decode cX0_become 41 = .ok (.aload_n 0, 1) := by decide +kernel
theorem dX0_become_42 : decode cX0_become 42 = .ok (.aload_n 1, 1) := by decide +kernel
theorem dX0_become_43 : decode cX0_become 43 = .ok (.getfield 44, 3) := by decide +kernel
theorem dX0_become_46 : decode cX0_become 46 = .ok (.putfield 44, 3) := by decide +kernel
theorem dX0_become_49 : decode cX0_become 49 = .ok (.return_, 1) := by decide +kernel
set_option maxRecDepth 20000 in
theorem ggX0_grudgeOf_X6_at : GoodIn wsX0_grudgeOf wsX6_at := goodIn_r _ [4] (by decide +kernel) (by decide +kernel)
set_option maxRecDepth 20000 in
theorem gX0_grudgeOf_X6_at_n47 : GoodIn wsX0_grudgeOf (wsX6_at) := ggX0_grudgeOf_X6_at
theorem dX0_grudgeOf_0 : decode cX0_grudgeOf 0 = .ok (.aload_n 0, 1) := by decide +kernel
theorem dX0_grudgeOf_1 : decode cX0_grudgeOf 1 = .ok (.getfield 9, 3) := by decide +kernel
theorem dX0_grudgeOf_4 : decode cX0_grudgeOf 4 = .ok (.iload_n 2, 1) := by decide +kernel
theorem dX0_grudgeOf_5 : decode cX0_grudgeOf 5 = .ok (.bipush 8, 2) := by decide +kernel
theorem dX0_grudgeOf_7 : decode cX0_grudgeOf 7 = .ok (.imul, 1) := by decide +kernel
theorem dX0_grudgeOf_8 : decode cX0_grudgeOf 8 = .ok (.iload_n 1, 1) := by decide +kernel
theorem dX0_grudgeOf_9 : decode cX0_grudgeOf 9 = .ok (.iadd, 1) := by decide +kernel
theorem dX0_grudgeOf_10 : decode cX0_grudgeOf 10 = .ok (.invokestatic 47, 3) := by decide +kernel
theorem dX0_grudgeOf_13 : decode cX0_grudgeOf 13 = .ok (.ireturn, 1) := by decide +kernel
set_option maxRecDepth 20000 in
theorem ggX0_setGrudge_X6_put : GoodIn wsX0_setGrudge wsX6_put := goodIn_r _ [4] (by decide +kernel) (by decide +kernel)
set_option maxRecDepth 20000 in
theorem gX0_setGrudge_X6_put_n51 : GoodIn wsX0_setGrudge (wsX6_put) := ggX0_setGrudge_X6_put
theorem dX0_setGrudge_0 : decode cX0_setGrudge 0 = .ok (.aload_n 0, 1) := by decide +kernel
theorem dX0_setGrudge_1 : decode cX0_setGrudge 1 = .ok (.getfield 9, 3) := by decide +kernel
theorem dX0_setGrudge_4 : decode cX0_setGrudge 4 = .ok (.iload_n 2, 1) := by decide +kernel
theorem dX0_setGrudge_5 : decode cX0_setGrudge 5 = .ok (.bipush 8, 2) := by decide +kernel
theorem dX0_setGrudge_7 : decode cX0_setGrudge 7 = .ok (.imul, 1) := by decide +kernel
theorem dX0_setGrudge_8 : decode cX0_setGrudge 8 = .ok (.iload_n 1, 1) := by decide +kernel
theorem dX0_setGrudge_9 : decode cX0_setGrudge 9 = .ok (.iadd, 1) := by decide +kernel
theorem dX0_setGrudge_10 : decode cX0_setGrudge 10 = .ok (.iload_n 3, 1) := by decide +kernel
theorem dX0_setGrudge_11 : decode cX0_setGrudge 11 = .ok (.invokestatic 51, 3) := by decide +kernel
theorem dX0_setGrudge_14 : decode cX0_setGrudge 14 = .ok (.return_, 1) := by decide +kernel
set_option maxRecDepth 20000 in
theorem ggX0_isOiled_X6_at : GoodIn wsX0_isOiled wsX6_at := goodIn_r _ [4] (by decide +kernel) (by decide +kernel)
set_option maxRecDepth 20000 in
theorem gX0_isOiled_X6_at_n47 : GoodIn wsX0_isOiled (wsX6_at) := ggX0_isOiled_X6_at
theorem dX0_isOiled_0 : decode cX0_isOiled 0 = .ok (.aload_n 0, 1) := by decide +kernel
theorem dX0_isOiled_1 : decode cX0_isOiled 1 = .ok (.getfield 18, 3) := by decide +kernel
theorem dX0_isOiled_4 : decode cX0_isOiled 4 = .ok (.iload_n 1, 1) := by decide +kernel
theorem dX0_isOiled_5 : decode cX0_isOiled 5 = .ok (.invokestatic 47, 3) := by decide +kernel
theorem dX0_isOiled_8 : decode cX0_isOiled 8 = .ok (.ifCond .le 7, 3) := by decide +kernel
theorem dX0_isOiled_11 : decode cX0_isOiled 11 = .ok (.iconst 1, 1) := by decide +kernel
theorem dX0_isOiled_12 : decode cX0_isOiled 12 = .ok (.goto 4, 3) := by decide +kernel
theorem dX0_isOiled_15 : decode cX0_isOiled 15 = .ok (.iconst 0, 1) := by decide +kernel
theorem dX0_isOiled_16 : decode cX0_isOiled 16 = .ok (.ireturn, 1) := by decide +kernel
set_option maxRecDepth 20000 in
theorem ggX0_oiledDoors_X0_isOiled : GoodIn wsX0_oiledDoors wsX0_isOiled := goodIn_r _ [5, 6, 7, 8, 9, 10, 11, 12, 13, 14, 15] (by decide +kernel) (by decide +kernel)
set_option maxRecDepth 20000 in
theorem gX0_oiledDoors_X0_isOiled : GoodIn wsX0_oiledDoors (wsV RX0 55 RX0 yX0_isOiled wsX0_isOiled) := goodIn_app (goodIn_of _ (by decide +kernel)) ggX0_oiledDoors_X0_isOiled
theorem dX0_oiledDoors_0 : decode cX0_oiledDoors 0 = .ok (.iconst 0, 1) := by decide +kernel
theorem dX0_oiledDoors_1 : decode cX0_oiledDoors 1 = .ok (.istore_n 1, 1) := by decide +kernel
theorem dX0_oiledDoors_2 : decode cX0_oiledDoors 2 = .ok (.iconst 0, 1) := by decide +kernel
theorem dX0_oiledDoors_3 : decode cX0_oiledDoors 3 = .ok (.istore_n 2, 1) := by decide +kernel
theorem dX0_oiledDoors_4 : decode cX0_oiledDoors 4 = .ok (.iload_n 2, 1) := by decide +kernel
theorem dX0_oiledDoors_5 : decode cX0_oiledDoors 5 = .ok (.bipush 8, 2) := by decide +kernel
theorem dX0_oiledDoors_7 : decode cX0_oiledDoors 7 = .ok (.if_icmp .ge 25, 3) := by decide +kernel
theorem dX0_oiledDoors_10 : decode cX0_oiledDoors 10 = .ok (.iload_n 1, 1) := by decide +kernel
theorem dX0_oiledDoors_11 : decode cX0_oiledDoors 11 = .ok (.aload_n 0, 1) := by decide +kernel
theorem dX0_oiledDoors_12 : decode cX0_oiledDoors 12 = .ok (.iload_n 2, 1) := by decide +kernel
theorem dX0_oiledDoors_13 : decode cX0_oiledDoors 13 = .ok (.invokevirtual 55, 3) := by decide +kernel
theorem dX0_oiledDoors_16 : decode cX0_oiledDoors 16 = .ok (.ifCond .eq 7, 3) := by decide +kernel
theorem dX0_oiledDoors_19 : decode cX0_oiledDoors 19 = .ok (.iconst 1, 1) := by decide +kernel
theorem dX0_oiledDoors_20 : decode cX0_oiledDoors 20 = .ok (.goto 4, 3) := by decide +kernel
theorem dX0_oiledDoors_23 : decode cX0_oiledDoors 23 = .ok (.iconst 0, 1) := by decide +kernel
theorem dX0_oiledDoors_24 : decode cX0_oiledDoors 24 = .ok (.iadd, 1) := by decide +kernel
theorem dX0_oiledDoors_25 : decode cX0_oiledDoors 25 = .ok (.istore_n 1, 1) := by decide +kernel
theorem dX0_oiledDoors_26 : decode cX0_oiledDoors 26 = .ok (.iinc 2 1, 3) := by decide +kernel
theorem dX0_oiledDoors_29 : decode cX0_oiledDoors 29 = .ok (.goto (-25), 3) := by decide +kernel
theorem dX0_oiledDoors_32 : decode cX0_oiledDoors 32 = .ok (.iload_n 1, 1) := by decide +kernel
theorem dX0_oiledDoors_33 : decode cX0_oiledDoors 33 = .ok (.ireturn, 1) := by decide +kernel
set_option maxRecDepth 20000 in
theorem ggX0_minutesThrough_X0_isOiled : GoodIn wsX0_minutesThrough wsX0_isOiled := goodIn_r _ [5, 6, 7, 8, 9, 15, 16, 17, 18, 19, 20] (by decide +kernel) (by decide +kernel)
set_option maxRecDepth 20000 in
theorem gX0_minutesThrough_X0_isOiled : GoodIn wsX0_minutesThrough (wsV RX0 55 RX0 yX0_isOiled wsX0_isOiled) := goodIn_app (goodIn_of _ (by decide +kernel)) ggX0_minutesThrough_X0_isOiled
set_option maxRecDepth 20000 in
theorem ggX0_minutesThrough_X0_grudgeOf : GoodIn wsX0_minutesThrough wsX0_grudgeOf := goodIn_r _ [13, 14, 7, 8, 9, 15, 16, 17, 18, 19, 20] (by decide +kernel) (by decide +kernel)
set_option maxRecDepth 20000 in
theorem gX0_minutesThrough_X0_grudgeOf : GoodIn wsX0_minutesThrough (wsV RX0 59 RX0 yX0_grudgeOf wsX0_grudgeOf) := goodIn_app (goodIn_of _ (by decide +kernel)) ggX0_minutesThrough_X0_grudgeOf
theorem dX0_minutesThrough_0 : decode cX0_minutesThrough 0 = .ok (.aload_n 0, 1) := by decide +kernel
theorem dX0_minutesThrough_1 : decode cX0_minutesThrough 1 = .ok (.iload_n 1, 1) := by decide +kernel
theorem dX0_minutesThrough_2 : decode cX0_minutesThrough 2 = .ok (.invokevirtual 55, 3) := by decide +kernel
theorem dX0_minutesThrough_5 : decode cX0_minutesThrough 5 = .ok (.ifCond .eq 7, 3) := by decide +kernel
theorem dX0_minutesThrough_8 : decode cX0_minutesThrough 8 = .ok (.iconst 1, 1) := by decide +kernel
theorem dX0_minutesThrough_9 : decode cX0_minutesThrough 9 = .ok (.goto 11, 3) := by decide +kernel
theorem dX0_minutesThrough_12 : decode cX0_minutesThrough 12 = .ok (.iconst 1, 1) := by decide +kernel
theorem dX0_minutesThrough_13 : decode cX0_minutesThrough 13 = .ok (.aload_n 0, 1) := by decide +kernel
theorem dX0_minutesThrough_14 : decode cX0_minutesThrough 14 = .ok (.iload_n 1, 1) := by decide +kernel
theorem dX0_minutesThrough_15 : decode cX0_minutesThrough 15 = .ok (.iload_n 2, 1) := by decide +kernel
theorem dX0_minutesThrough_16 : decode cX0_minutesThrough 16 = .ok (.invokevirtual 59, 3) := by decide +kernel
theorem dX0_minutesThrough_19 : decode cX0_minutesThrough 19 = .ok (.iadd, 1) := by decide +kernel
theorem dX0_minutesThrough_20 : decode cX0_minutesThrough 20 = .ok (.ireturn, 1) := by decide +kernel
set_option maxRecDepth 20000 in
theorem ggX0_passThrough_X0_minutesThrough : GoodIn wsX0_passThrough wsX0_minutesThrough := goodIn_r _ [7, 8, 9, 10, 6, 11, 12, 13, 14, 15, 16, 17, 18, 19, 20, 51, 52, 53, 54, 55, 56] (by decide +kernel) (by decide +kernel)
set_option maxRecDepth 20000 in
theorem gX0_passThrough_X0_minutesThrough : GoodIn wsX0_passThrough (wsV RX0 63 RX0 yX0_minutesThrough wsX0_minutesThrough) := goodIn_app (goodIn_of _ (by decide +kernel)) ggX0_passThrough_X0_minutesThrough
set_option maxRecDepth 20000 in
theorem ggX0_passThrough_X6_at : GoodIn wsX0_passThrough wsX6_at := goodIn_r _ [15] (by decide +kernel) (by decide +kernel)
set_option maxRecDepth 20000 in
theorem gX0_passThrough_X6_at_n47 : GoodIn wsX0_passThrough (wsX6_at) := ggX0_passThrough_X6_at
set_option maxRecDepth 20000 in
theorem ggX0_passThrough_X2_otherSide : GoodIn wsX0_passThrough wsX2_otherSide := goodIn_r _ [25, 26, 27, 13, 14, 15, 57, 58, 59, 60, 61, 62, 63, 64, 65, 66, 67, 68, 69, 70, 71] (by decide +kernel) (by decide +kernel)
set_option maxRecDepth 20000 in
theorem gX0_passThrough_X2_otherSide : GoodIn wsX0_passThrough (wsV RX0 66 RX2 yX2_otherSide wsX2_otherSide) := goodIn_app (goodIn_of _ (by decide +kernel)) ggX0_passThrough_X2_otherSide
set_option maxRecDepth 20000 in
theorem ggX0_passThrough_X6_put : GoodIn wsX0_passThrough wsX6_put := goodIn_r _ [29] (by decide +kernel) (by decide +kernel)
set_option maxRecDepth 20000 in
theorem gX0_passThrough_X6_put_n51 : GoodIn wsX0_passThrough (wsX6_put) := ggX0_passThrough_X6_put
set_option maxRecDepth 20000 in
theorem ggX0_passThrough_X0_grudgeOf : GoodIn wsX0_passThrough wsX0_grudgeOf := goodIn_r _ [19, 20, 13, 14, 15, 51, 52, 53, 54, 55, 56] (by decide +kernel) (by decide +kernel)
set_option maxRecDepth 20000 in
theorem gX0_passThrough_X0_grudgeOf : GoodIn wsX0_passThrough (wsV RX0 59 RX0 yX0_grudgeOf wsX0_grudgeOf) := goodIn_app (goodIn_of _ (by decide +kernel)) ggX0_passThrough_X0_grudgeOf
set_option maxRecDepth 20000 in
theorem ggX0_passThrough_X2_grudgeNext : GoodIn wsX0_passThrough wsX2_grudgeNext := goodIn_r _ [33, 34, 35, 13, 14, 15, 36, 37, 38, 39, 40, 41, 42, 43, 44, 45, 46, 57, 58, 59, 60, 61, 62, 63, 64, 65, 66, 67, 68, 69, 70, 71] (by decide +kernel) (by decide +kernel)
set_option maxRecDepth 20000 in
theorem gX0_passThrough_X2_grudgeNext : GoodIn wsX0_passThrough (wsV RX0 69 RX2 yX2_grudgeNext wsX2_grudgeNext) := goodIn_app (goodIn_of _ (by decide +kernel)) ggX0_passThrough_X2_grudgeNext
set_option maxRecDepth 20000 in
theorem ggX0_passThrough_X0_setGrudge : GoodIn wsX0_passThrough wsX0_setGrudge := goodIn_r _ [50, 20, 28, 14, 29, 51, 52, 53, 54, 55, 56] (by decide +kernel) (by decide +kernel)
set_option maxRecDepth 20000 in
theorem gX0_passThrough_X0_setGrudge : GoodIn wsX0_passThrough (wsV RX0 73 RX0 yX0_setGrudge wsX0_setGrudge) := goodIn_app (goodIn_of _ (by decide +kernel)) ggX0_passThrough_X0_setGrudge
theorem dX0_passThrough_0 : decode cX0_passThrough 0 = .ok (.aload_n 0, 1) := by decide +kernel
theorem dX0_passThrough_1 : decode cX0_passThrough 1 = .ok (.iload_n 3, 1) := by decide +kernel
theorem dX0_passThrough_2 : decode cX0_passThrough 2 = .ok (.iload_n 2, 1) := by decide +kernel
theorem dX0_passThrough_3 : decode cX0_passThrough 3 = .ok (.invokevirtual 63, 3) := by decide +kernel
theorem dX0_passThrough_6 : decode cX0_passThrough 6 = .ok (.istore 5, 2) := by decide +kernel
theorem dX0_passThrough_8 : decode cX0_passThrough 8 = .ok (.aload_n 0, 1) := by decide +kernel
theorem dX0_passThrough_9 : decode cX0_passThrough 9 = .ok (.dup, 1) := by decide +kernel
theorem dX0_passThrough_10 : decode cX0_passThrough 10 = .ok (.getfield 40, 3) := by decide +kernel
theorem dX0_passThrough_13 : decode cX0_passThrough 13 = .ok (.iload 5, 2) := by decide +kernel
theorem dX0_passThrough_15 : decode cX0_passThrough 15 = .ok (.iadd, 1) := by decide +kernel
theorem dX0_passThrough_16 : decode cX0_passThrough 16 = .ok (.putfield 40, 3) := by decide +kernel
theorem dX0_passThrough_19 : decode cX0_passThrough 19 = .ok (.aload_n 0, 1) := by decide +kernel
theorem dX0_passThrough_20 : decode cX0_passThrough 20 = .ok (.getfield 21, 3) := by decide +kernel
theorem dX0_passThrough_23 : decode cX0_passThrough 23 = .ok (.iload_n 2, 1) := by decide +kernel
theorem dX0_passThrough_24 : decode cX0_passThrough 24 = .ok (.aload_n 1, 1) := by decide +kernel
theorem dX0_passThrough_25 : decode cX0_passThrough 25 = .ok (.iload_n 3, 1) := by decide +kernel
theorem dX0_passThrough_26 : decode cX0_passThrough 26 = .ok (.aload_n 0, 1) := by decide +kernel
theorem dX0_passThrough_27 : decode cX0_passThrough 27 = .ok (.getfield 21, 3) := by decide +kernel
theorem dX0_passThrough_30 : decode cX0_passThrough 30 = .ok (.iload_n 2, 1) := by decide +kernel
theorem dX0_passThrough_31 : decode cX0_passThrough 31 = .ok (.invokestatic 47, 3) := by decide +kernel
theorem dX0_passThrough_34 : decode cX0_passThrough 34 = .ok (.invokevirtual 66, 3) := by decide +kernel
theorem dX0_passThrough_37 : decode cX0_passThrough 37 = .ok (.invokestatic 51, 3) := by decide +kernel
theorem dX0_passThrough_40 : decode cX0_passThrough 40 = .ok (.aload_n 0, 1) := by decide +kernel
theorem dX0_passThrough_41 : decode cX0_passThrough 41 = .ok (.iload_n 3, 1) := by decide +kernel
theorem dX0_passThrough_42 : decode cX0_passThrough 42 = .ok (.iload_n 2, 1) := by decide +kernel
theorem dX0_passThrough_43 : decode cX0_passThrough 43 = .ok (.aload_n 1, 1) := by decide +kernel
theorem dX0_passThrough_44 : decode cX0_passThrough 44 = .ok (.aload_n 0, 1) := by decide +kernel
theorem dX0_passThrough_45 : decode cX0_passThrough 45 = .ok (.iload_n 3, 1) := by decide +kernel
theorem dX0_passThrough_46 : decode cX0_passThrough 46 = .ok (.iload_n 2, 1) := by decide +kernel
theorem dX0_passThrough_47 : decode cX0_passThrough 47 = .ok (.invokevirtual 59, 3) := by decide +kernel
theorem dX0_passThrough_50 : decode cX0_passThrough 50 = .ok (.iload_n 2, 1) := by decide +kernel
theorem dX0_passThrough_51 : decode cX0_passThrough 51 = .ok (.iload 4, 2) := by decide +kernel
theorem dX0_passThrough_53 : decode cX0_passThrough 53 = .ok (.invokevirtual 69, 3) := by decide +kernel
theorem dX0_passThrough_56 : decode cX0_passThrough 56 = .ok (.invokevirtual 73, 3) := by decide +kernel
theorem dX0_passThrough_59 : decode cX0_passThrough 59 = .ok (.iload 5, 2) := by decide +kernel
theorem dX0_passThrough_61 : decode cX0_passThrough 61 = .ok (.ireturn, 1) := by decide +kernel
set_option maxRecDepth 20000 in
theorem ggX0_sleep_X0_passOn : GoodIn wsX0_sleep wsX0_passOn := goodIn_r _ [6, 7, 8, 9, 10, 11, 12, 13, 14, 15, 5, 16, 17, 18, 19, 20, 21, 22, 23, 24, 25, 26, 27, 28, 29, 30, 31, 32, 33, 34, 35, 36, 37, 38, 39, 60, 61, 62, 63, 64, 65, 45, 46, 47, 48, 49, 50, 51, 52, 53, 54, 55, 56, 57, 58, 59] (by decide +kernel) (by decide +kernel)
set_option maxRecDepth 20000 in
theorem gX0_sleep_X0_passOn : GoodIn wsX0_sleep (wsV RX0 80 RX0 yX0_passOn wsX0_passOn) := goodIn_app (goodIn_of _ (by decide +kernel)) ggX0_sleep_X0_passOn
set_option maxRecDepth 20000 in
theorem ggX0_sleep_X0_dryOil : GoodIn wsX0_sleep wsX0_dryOil := goodIn_r _ [43, 17, 44, 28, 29, 30, 11, 9, 12, 23, 24, 60, 61, 62, 63, 64, 65] (by decide +kernel) (by decide +kernel)
set_option maxRecDepth 20000 in
theorem gX0_sleep_X0_dryOil : GoodIn wsX0_sleep (wsV RX0 84 RX0 yX0_dryOil wsX0_dryOil) := goodIn_app (goodIn_of _ (by decide +kernel)) ggX0_sleep_X0_dryOil
theorem dX0_sleep_0 : decode cX0_sleep 0 = .ok (.iconst 0, 1) := by decide +kernel
theorem dX0_sleep_1 : decode cX0_sleep 1 = .ok (.istore_n 2, 1) := by decide +kernel
theorem dX0_sleep_2 : decode cX0_sleep 2 = .ok (.iload_n 2, 1) := by decide +kernel
theorem dX0_sleep_3 : decode cX0_sleep 3 = .ok (.aload_n 1, 1) := by decide +kernel
theorem dX0_sleep_4 : decode cX0_sleep 4 = .ok (.getfield 77, 3) := by decide +kernel
theorem dX0_sleep_7 : decode cX0_sleep 7 = .ok (.if_icmp .ge 15, 3) := by decide +kernel
theorem dX0_sleep_10 : decode cX0_sleep 10 = .ok (.aload_n 0, 1) := by decide +kernel
theorem dX0_sleep_11 : decode cX0_sleep 11 = .ok (.aload_n 1, 1) := by decide +kernel
theorem dX0_sleep_12 : decode cX0_sleep 12 = .ok (.iload_n 2, 1) := by decide +kernel
theorem dX0_sleep_13 : decode cX0_sleep 13 = .ok (.invokevirtual 80, 3) := by decide +kernel
theorem dX0_sleep_16 : decode cX0_sleep 16 = .ok (.iinc 2 1, 3) := by decide +kernel
theorem dX0_sleep_19 : decode cX0_sleep 19 = .ok (.goto (-17), 3) := by decide +kernel
theorem dX0_sleep_22 : decode cX0_sleep 22 = .ok (.aload_n 0, 1) := by decide +kernel
theorem dX0_sleep_23 : decode cX0_sleep 23 = .ok (.invokevirtual 84, 3) := by decide +kernel
theorem dX0_sleep_26 : decode cX0_sleep 26 = .ok (.aload_n 0, 1) := by decide +kernel
theorem dX0_sleep_27 : decode cX0_sleep 27 = .ok (.dup, 1) := by decide +kernel
theorem dX0_sleep_28 : decode cX0_sleep 28 = .ok (.getfield 44, 3) := by decide +kernel
theorem dX0_sleep_31 : decode cX0_sleep 31 = .ok (.iconst 1, 1) := by decide +kernel
theorem dX0_sleep_32 : decode cX0_sleep 32 = .ok (.iadd, 1) := by decide +kernel
theorem dX0_sleep_33 : decode cX0_sleep 33 = .ok (.putfield 44, 3) := by decide +kernel
theorem dX0_sleep_36 : decode cX0_sleep 36 = .ok (.return_, 1) := by decide +kernel
set_option maxRecDepth 20000 in
theorem ggX0_sleepAgainstOne_X0_passOn : GoodIn wsX0_sleepAgainstOne wsX0_passOn := goodIn_r _ [5, 6, 7, 8, 9, 10, 11, 12, 13, 14, 4, 15, 16, 17, 18, 19, 20, 21, 22, 23, 24, 25, 26, 27, 28, 29, 30, 31, 32, 33, 34, 35, 36, 37, 38, 44, 45, 46, 47, 48, 49, 50, 51, 52, 53, 54, 55, 56, 57, 58, 59, 60, 61, 62, 63, 64] (by decide +kernel) (by decide +kernel)
set_option maxRecDepth 20000 in
theorem gX0_sleepAgainstOne_X0_passOn : GoodIn wsX0_sleepAgainstOne (wsV RX0 80 RX0 yX0_passOn wsX0_passOn) := goodIn_app (goodIn_of _ (by decide +kernel)) ggX0_sleepAgainstOne_X0_passOn
set_option maxRecDepth 20000 in
theorem ggX0_sleepAgainstOne_X0_dryOil : GoodIn wsX0_sleepAgainstOne wsX0_dryOil := goodIn_r _ [42, 16, 43, 27, 28, 29, 10, 8, 11, 22, 23, 44, 45, 46, 47, 48, 49] (by decide +kernel) (by decide +kernel)
set_option maxRecDepth 20000 in
theorem gX0_sleepAgainstOne_X0_dryOil : GoodIn wsX0_sleepAgainstOne (wsV RX0 84 RX0 yX0_dryOil wsX0_dryOil) := goodIn_app (goodIn_of _ (by decide +kernel)) ggX0_sleepAgainstOne_X0_dryOil
theorem dX0_sleepAgainstOne_0 : decode cX0_sleepAgainstOne 0 = .ok (.iconst 0, 1) := by decide +kernel
theorem dX0_sleepAgainstOne_1 : decode cX0_sleepAgainstOne 1 = .ok (.istore 4, 2) := by decide +kernel
theorem dX0_sleepAgainstOne_3 : decode cX0_sleepAgainstOne 3 = .ok (.iload 4, 2) := by decide +kernel
theorem dX0_sleepAgainstOne_5 : decode cX0_sleepAgainstOne 5 = .ok (.iload_n 2, 1) := by decide +kernel
theorem dX0_sleepAgainstOne_6 : decode cX0_sleepAgainstOne 6 = .ok (.if_icmp .ge 19, 3) := by decide +kernel
theorem dX0_sleepAgainstOne_9 : decode cX0_sleepAgainstOne 9 = .ok (.aload_n 0, 1) := by decide +kernel
theorem dX0_sleepAgainstOne_10 : decode cX0_sleepAgainstOne 10 = .ok (.aload_n 1, 1) := by decide +kernel
theorem dX0_sleepAgainstOne_11 : decode cX0_sleepAgainstOne 11 = .ok (.iload_n 3, 1) := by decide +kernel
theorem dX0_sleepAgainstOne_12 : decode cX0_sleepAgainstOne 12 = .ok (.invokevirtual 80, 3) := by decide +kernel
theorem dX0_sleepAgainstOne_15 : decode cX0_sleepAgainstOne 15 = .ok (.aload_n 0, 1) := by decide +kernel
theorem dX0_sleepAgainstOne_16 : decode cX0_sleepAgainstOne 16 = .ok (.invokevirtual 84, 3) := by decide +kernel
theorem dX0_sleepAgainstOne_19 : decode cX0_sleepAgainstOne 19 = .ok (.iinc 4 1, 3) := by decide +kernel
theorem dX0_sleepAgainstOne_22 : decode cX0_sleepAgainstOne 22 = .ok (.goto (-19), 3) := by decide +kernel
theorem dX0_sleepAgainstOne_25 : decode cX0_sleepAgainstOne 25 = .ok (.return_, 1) := by decide +kernel
set_option maxRecDepth 20000 in
theorem ggX0_passOn_X6_fill : GoodIn wsX0_passOn wsX6_fill := goodIn_r _ [4] (by decide +kernel) (by decide +kernel)
set_option maxRecDepth 20000 in
theorem gX0_passOn_X6_fill_n36 : GoodIn wsX0_passOn (wsX6_fill) := ggX0_passOn_X6_fill
set_option maxRecDepth 20000 in
theorem ggX0_passOn_X6_at : GoodIn wsX0_passOn wsX6_at := goodIn_r _ [6] (by decide +kernel) (by decide +kernel)
set_option maxRecDepth 20000 in
theorem gX0_passOn_X6_at_n47 : GoodIn wsX0_passOn (wsX6_at) := ggX0_passOn_X6_at
set_option maxRecDepth 20000 in
theorem ggX0_passOn_X0_isOiled : GoodIn wsX0_passOn wsX0_isOiled := goodIn_r _ [11, 12, 5, 3, 6, 35, 36, 37, 38, 39, 40] (by decide +kernel) (by decide +kernel)
set_option maxRecDepth 20000 in
theorem gX0_passOn_X0_isOiled : GoodIn wsX0_passOn (wsV RX0 55 RX0 yX0_isOiled wsX0_isOiled) := goodIn_app (goodIn_of _ (by decide +kernel)) ggX0_passOn_X0_isOiled
set_option maxRecDepth 20000 in
theorem ggX0_passOn_X0_grudgeOf : GoodIn wsX0_passOn wsX0_grudgeOf := goodIn_r _ [16, 17, 5, 3, 6, 35, 36, 37, 38, 39, 40] (by decide +kernel) (by decide +kernel)
set_option maxRecDepth 20000 in
theorem gX0_passOn_X0_grudgeOf : GoodIn wsX0_passOn (wsV RX0 59 RX0 yX0_grudgeOf wsX0_grudgeOf) := goodIn_app (goodIn_of _ (by decide +kernel)) ggX0_passOn_X0_grudgeOf
set_option maxRecDepth 20000 in
theorem ggX0_passOn_X6_put : GoodIn wsX0_passOn wsX6_put := goodIn_r _ [19] (by decide +kernel) (by decide +kernel)
set_option maxRecDepth 20000 in
theorem gX0_passOn_X6_put_n51 : GoodIn wsX0_passOn (wsX6_put) := ggX0_passOn_X6_put
set_option maxRecDepth 20000 in
theorem ggX0_passOn_X6_worn : GoodIn wsX0_passOn wsX6_worn := goodIn_r _ [21, 22, 23, 24, 25] (by decide +kernel) (by decide +kernel)
set_option maxRecDepth 20000 in
theorem gX0_passOn_X6_worn_n99 : GoodIn wsX0_passOn (wsX6_worn) := ggX0_passOn_X6_worn
set_option maxRecDepth 20000 in
theorem ggX0_passOn_X6_grown : GoodIn wsX0_passOn wsX6_grown := goodIn_r _ [27, 28, 29, 24, 30] (by decide +kernel) (by decide +kernel)
set_option maxRecDepth 20000 in
theorem gX0_passOn_X6_grown_n105 : GoodIn wsX0_passOn (wsX6_grown) := ggX0_passOn_X6_grown
set_option maxRecDepth 20000 in
theorem ggX0_passOn_X0_setGrudge : GoodIn wsX0_passOn wsX0_setGrudge := goodIn_r _ [34, 17, 18, 3, 19, 35, 36, 37, 38, 39, 40] (by decide +kernel) (by decide +kernel)
set_option maxRecDepth 20000 in
theorem gX0_passOn_X0_setGrudge : GoodIn wsX0_passOn (wsV RX0 73 RX0 yX0_setGrudge wsX0_setGrudge) := goodIn_app (goodIn_of _ (by decide +kernel)) ggX0_passOn_X0_setGrudge
theorem dX0_passOn_0 : decode cX0_passOn 0 = .ok (.aload_n 0, 1) := by decide +kernel
theorem dX0_passOn_1 : decode cX0_passOn 1 = .ok (.getfield 15, 3) := by decide +kernel
theorem dX0_passOn_4 : decode cX0_passOn 4 = .ok (.iconst 0, 1) := by decide +kernel
theorem dX0_passOn_5 : decode cX0_passOn 5 = .ok (.invokestatic 36, 3) := by decide +kernel
theorem dX0_passOn_8 : decode cX0_passOn 8 = .ok (.iconst 0, 1) := by decide +kernel
theorem dX0_passOn_9 : decode cX0_passOn 9 = .ok (.istore_n 3, 1) := by decide +kernel
theorem dX0_passOn_10 : decode cX0_passOn 10 = .ok (.iload_n 3, 1) := by decide +kernel
theorem dX0_passOn_11 : decode cX0_passOn 11 = .ok (.aload_n 1, 1) := by decide +kernel
theorem dX0_passOn_12 : decode cX0_passOn 12 = .ok (.getfield 87, 3) := by decide +kernel
theorem dX0_passOn_15 : decode cX0_passOn 15 = .ok (.if_icmp .ge 98, 3) := by decide +kernel
theorem dX0_passOn_18 : decode cX0_passOn 18 = .ok (.aload_n 1, 1) := by decide +kernel
theorem dX0_passOn_19 : decode cX0_passOn 19 = .ok (.getfield 90, 3) := by decide +kernel
theorem dX0_passOn_22 : decode cX0_passOn 22 = .ok (.iload_n 3, 1) := by decide +kernel
theorem dX0_passOn_23 : decode cX0_passOn 23 = .ok (.invokestatic 47, 3) := by decide +kernel
theorem dX0_passOn_26 : decode cX0_passOn 26 = .ok (.istore 4, 2) := by decide +kernel
theorem dX0_passOn_28 : decode cX0_passOn 28 = .ok (.iload 4, 2) := by decide +kernel
theorem dX0_passOn_30 : decode cX0_passOn 30 = .ok (.iload_n 3, 1) := by decide +kernel
theorem dX0_passOn_31 : decode cX0_passOn 31 = .ok (.if_icmp .eq 76, 3) := by decide +kernel
theorem dX0_passOn_34 : decode cX0_passOn 34 = .ok (.aload_n 0, 1) := by decide +kernel
theorem dX0_passOn_35 : decode cX0_passOn 35 = .ok (.iload_n 3, 1) := by decide +kernel
theorem dX0_passOn_36 : decode cX0_passOn 36 = .ok (.invokevirtual 55, 3) := by decide +kernel
theorem dX0_passOn_39 : decode cX0_passOn 39 = .ok (.ifCond .ne 68, 3) := by decide +kernel
theorem dX0_passOn_42 : decode cX0_passOn 42 = .ok (.aload_n 0, 1) := by decide +kernel
theorem dX0_passOn_43 : decode cX0_passOn 43 = .ok (.iload 4, 2) := by decide +kernel
theorem dX0_passOn_45 : decode cX0_passOn 45 = .ok (.invokevirtual 55, 3) := by decide +kernel
theorem dX0_passOn_48 : decode cX0_passOn 48 = .ok (.ifCond .ne 59, 3) := by decide +kernel
theorem dX0_passOn_51 : decode cX0_passOn 51 = .ok (.aload_n 0, 1) := by decide +kernel
theorem dX0_passOn_52 : decode cX0_passOn 52 = .ok (.iload_n 3, 1) := by decide +kernel
theorem dX0_passOn_53 : decode cX0_passOn 53 = .ok (.iload_n 2, 1) := by decide +kernel
theorem dX0_passOn_54 : decode cX0_passOn 54 = .ok (.invokevirtual 59, 3) := by decide +kernel
theorem dX0_passOn_57 : decode cX0_passOn 57 = .ok (.aload_n 1, 1) := by decide +kernel
theorem dX0_passOn_58 : decode cX0_passOn 58 = .ok (.getfield 93, 3) := by decide +kernel
theorem dX0_passOn_61 : decode cX0_passOn 61 = .ok (.imul, 1) := by decide +kernel
theorem dX0_passOn_62 : decode cX0_passOn 62 = .ok (.bipush 10, 2) := by decide +kernel
theorem dX0_passOn_64 : decode cX0_passOn 64 = .ok (.idiv, 1) := by decide +kernel
theorem dX0_passOn_65 : decode cX0_passOn 65 = .ok (.istore 5, 2) := by decide +kernel
theorem dX0_passOn_67 : decode cX0_passOn 67 = .ok (.aload_n 0, 1) := by decide +kernel
theorem dX0_passOn_68 : decode cX0_passOn 68 = .ok (.getfield 15, 3) := by decide +kernel
theorem dX0_passOn_71 : decode cX0_passOn 71 = .ok (.iload_n 3, 1) := by decide +kernel
theorem dX0_passOn_72 : decode cX0_passOn 72 = .ok (.aload_n 0, 1) := by decide +kernel
theorem dX0_passOn_73 : decode cX0_passOn 73 = .ok (.getfield 15, 3) := by decide +kernel
theorem dX0_passOn_76 : decode cX0_passOn 76 = .ok (.iload_n 3, 1) := by decide +kernel
theorem dX0_passOn_77 : decode cX0_passOn 77 = .ok (.invokestatic 47, 3) := by decide +kernel
theorem dX0_passOn_80 : decode cX0_passOn 80 = .ok (.iload 5, 2) := by decide +kernel
theorem dX0_passOn_82 : decode cX0_passOn 82 = .ok (.isub, 1) := by decide +kernel
theorem dX0_passOn_83 : decode cX0_passOn 83 = .ok (.invokestatic 51, 3) := by decide +kernel
theorem dX0_passOn_86 : decode cX0_passOn 86 = .ok (.aload_n 0, 1) := by decide +kernel
theorem dX0_passOn_87 : decode cX0_passOn 87 = .ok (.getfield 15, 3) := by decide +kernel
theorem dX0_passOn_90 : decode cX0_passOn 90 = .ok (.iload 4, 2) := by decide +kernel
theorem dX0_passOn_92 : decode cX0_passOn 92 = .ok (.aload_n 0, 1) := by decide +kernel
theorem dX0_passOn_93 : decode cX0_passOn 93 = .ok (.getfield 15, 3) := by decide +kernel
theorem dX0_passOn_96 : decode cX0_passOn 96 = .ok (.iload 4, 2) := by decide +kernel
theorem dX0_passOn_98 : decode cX0_passOn 98 = .ok (.invokestatic 47, 3) := by decide +kernel
theorem dX0_passOn_101 : decode cX0_passOn 101 = .ok (.iload 5, 2) := by decide +kernel
theorem dX0_passOn_103 : decode cX0_passOn 103 = .ok (.iadd, 1) := by decide +kernel
theorem dX0_passOn_104 : decode cX0_passOn 104 = .ok (.invokestatic 51, 3) := by decide +kernel
theorem dX0_passOn_107 : decode cX0_passOn 107 = .ok (.iinc 3 1, 3) := by decide +kernel
theorem dX0_passOn_110 : decode cX0_passOn 110 = .ok (.goto (-100), 3) := by decide +kernel
theorem dX0_passOn_113 : decode cX0_passOn 113 = .ok (.iconst 0, 1) := by decide +kernel
theorem dX0_passOn_114 : decode cX0_passOn 114 = .ok (.istore_n 3, 1) := by decide +kernel
theorem dX0_passOn_115 : decode cX0_passOn 115 = .ok (.iload_n 3, 1) := by decide +kernel
theorem dX0_passOn_116 : decode cX0_passOn 116 = .ok (.aload_n 1, 1) := by decide +kernel
theorem dX0_passOn_117 : decode cX0_passOn 117 = .ok (.getfield 87, 3) := by decide +kernel
theorem dX0_passOn_120 : decode cX0_passOn 120 = .ok (.if_icmp .ge 52, 3) := by decide +kernel
theorem dX0_passOn_123 : decode cX0_passOn 123 = .ok (.aload_n 0, 1) := by decide +kernel
theorem dX0_passOn_124 : decode cX0_passOn 124 = .ok (.iload_n 3, 1) := by decide +kernel
theorem dX0_passOn_125 : decode cX0_passOn 125 = .ok (.iload_n 2, 1) := by decide +kernel
theorem dX0_passOn_126 : decode cX0_passOn 126 = .ok (.invokevirtual 59, 3) := by decide +kernel
theorem dX0_passOn_129 : decode cX0_passOn 129 = .ok (.aload_n 0, 1) := by decide +kernel
theorem dX0_passOn_130 : decode cX0_passOn 130 = .ok (.getfield 15, 3) := by decide +kernel
theorem dX0_passOn_133 : decode cX0_passOn 133 = .ok (.iload_n 3, 1) := by decide +kernel
theorem dX0_passOn_134 : decode cX0_passOn 134 = .ok (.invokestatic 47, 3) := by decide +kernel
theorem dX0_passOn_137 : decode cX0_passOn 137 = .ok (.iadd, 1) := by decide +kernel
theorem dX0_passOn_138 : decode cX0_passOn 138 = .ok (.aload_n 1, 1) := by decide +kernel
theorem dX0_passOn_139 : decode cX0_passOn 139 = .ok (.getfield 96, 3) := by decide +kernel
theorem dX0_passOn_142 : decode cX0_passOn 142 = .ok (.invokestatic 99, 3) := by decide +kernel
theorem dX0_passOn_145 : decode cX0_passOn 145 = .ok (.istore 4, 2) := by decide +kernel
theorem dX0_passOn_147 : decode cX0_passOn 147 = .ok (.aload_n 0, 1) := by decide +kernel
theorem dX0_passOn_148 : decode cX0_passOn 148 = .ok (.iload_n 3, 1) := by decide +kernel
theorem dX0_passOn_149 : decode cX0_passOn 149 = .ok (.iload_n 2, 1) := by decide +kernel
theorem dX0_passOn_150 : decode cX0_passOn 150 = .ok (.iload 4, 2) := by decide +kernel
theorem dX0_passOn_152 : decode cX0_passOn 152 = .ok (.aload_n 1, 1) := by decide +kernel
theorem dX0_passOn_153 : decode cX0_passOn 153 = .ok (.getfield 102, 3) := by decide +kernel
theorem dX0_passOn_156 : decode cX0_passOn 156 = .ok (.iload_n 3, 1) := by decide +kernel
theorem dX0_passOn_157 : decode cX0_passOn 157 = .ok (.invokestatic 47, 3) := by decide +kernel
theorem dX0_passOn_160 : decode cX0_passOn 160 = .ok (.invokestatic 105, 3) := by decide +kernel
theorem dX0_passOn_163 : decode cX0_passOn 163 = .ok (.invokevirtual 73, 3) := by decide +kernel
theorem dX0_passOn_166 : decode cX0_passOn 166 = .ok (.iinc 3 1, 3) := by decide +kernel
theorem dX0_passOn_169 : decode cX0_passOn 169 = .ok (.goto (-54), 3) := by decide +kernel
theorem dX0_passOn_172 : decode cX0_passOn 172 = .ok (.return_, 1) := by decide +kernel
set_option maxRecDepth 20000 in
theorem ggX0_dryOil_X6_at : GoodIn wsX0_dryOil wsX6_at := goodIn_r _ [8] (by decide +kernel) (by decide +kernel)
set_option maxRecDepth 20000 in
theorem gX0_dryOil_X6_at_n47 : GoodIn wsX0_dryOil (wsX6_at) := ggX0_dryOil_X6_at
set_option maxRecDepth 20000 in
theorem ggX0_dryOil_X6_put : GoodIn wsX0_dryOil wsX6_put := goodIn_r _ [10] (by decide +kernel) (by decide +kernel)
set_option maxRecDepth 20000 in
theorem gX0_dryOil_X6_put_n51 : GoodIn wsX0_dryOil (wsX6_put) := ggX0_dryOil_X6_put
theorem dX0_dryOil_0 : decode cX0_dryOil 0 = .ok (.iconst 0, 1) := by decide +kernel
theorem dX0_dryOil_1 : decode cX0_dryOil 1 = .ok (.istore_n 1, 1) := by decide +kernel
theorem dX0_dryOil_2 : decode cX0_dryOil 2 = .ok (.iload_n 1, 1) := by decide +kernel
theorem dX0_dryOil_3 : decode cX0_dryOil 3 = .ok (.bipush 8, 2) := by decide +kernel
theorem dX0_dryOil_5 : decode cX0_dryOil 5 = .ok (.if_icmp .ge 31, 3) := by decide +kernel
theorem dX0_dryOil_8 : decode cX0_dryOil 8 = .ok (.aload_n 0, 1) := by decide +kernel
theorem dX0_dryOil_9 : decode cX0_dryOil 9 = .ok (.getfield 18, 3) := by decide +kernel
theorem dX0_dryOil_12 : decode cX0_dryOil 12 = .ok (.iload_n 1, 1) := by decide +kernel
theorem dX0_dryOil_13 : decode cX0_dryOil 13 = .ok (.iconst 0, 1) := by decide +kernel
theorem dX0_dryOil_14 : decode cX0_dryOil 14 = .ok (.aload_n 0, 1) := by decide +kernel
theorem dX0_dryOil_15 : decode cX0_dryOil 15 = .ok (.getfield 18, 3) := by decide +kernel
theorem dX0_dryOil_18 : decode cX0_dryOil 18 = .ok (.iload_n 1, 1) := by decide +kernel
theorem dX0_dryOil_19 : decode cX0_dryOil 19 = .ok (.invokestatic 47, 3) := by decide +kernel
theorem dX0_dryOil_22 : decode cX0_dryOil 22 = .ok (.iconst 1, 1) := by decide +kernel
theorem dX0_dryOil_23 : decode cX0_dryOil 23 = .ok (.isub, 1) := by decide +kernel
theorem dX0_dryOil_24 : decode cX0_dryOil 24 = .ok (.invokestatic 108, 3) := by decide +kernel
theorem dX0_dryOil_27 : decode cX0_dryOil 27 = .ok (.invokestatic 51, 3) := by decide +kernel
theorem dX0_dryOil_30 : decode cX0_dryOil 30 = .ok (.iinc 1 1, 3) := by decide +kernel
theorem dX0_dryOil_33 : decode cX0_dryOil 33 = .ok (.goto (-31), 3) := by decide +kernel
theorem dX0_dryOil_36 : decode cX0_dryOil 36 = .ok (.return_, 1) := by decide +kernel
set_option maxRecDepth 20000 in
theorem ggX0_grudgesOfDoor_X0_grudgeOf : GoodIn wsX0_grudgesOfDoor wsX0_grudgeOf := goodIn_r _ [5, 6, 7, 8, 9, 25, 26, 27, 28, 29, 30] (by decide +kernel) (by decide +kernel)
set_option maxRecDepth 20000 in
theorem gX0_grudgesOfDoor_X0_grudgeOf : GoodIn wsX0_grudgesOfDoor (wsV RX0 59 RX0 yX0_grudgeOf wsX0_grudgeOf) := goodIn_app (goodIn_of _ (by decide +kernel)) ggX0_grudgesOfDoor_X0_grudgeOf
theorem dX0_grudgesOfDoor_0 : decode cX0_grudgesOfDoor 0 = .ok (.iconst 0, 1) := by decide +kernel
theorem dX0_grudgesOfDoor_1 : decode cX0_grudgesOfDoor 1 = .ok (.istore_n 3, 1) := by decide +kernel
theorem dX0_grudgesOfDoor_2 : decode cX0_grudgesOfDoor 2 = .ok (.iconst 0, 1) := by decide +kernel
theorem dX0_grudgesOfDoor_3 : decode cX0_grudgesOfDoor 3 = .ok (.istore 4, 2) := by decide +kernel
theorem dX0_grudgesOfDoor_5 : decode cX0_grudgesOfDoor 5 = .ok (.iload 4, 2) := by decide +kernel
theorem dX0_grudgesOfDoor_7 : decode cX0_grudgesOfDoor 7 = .ok (.aload_n 1, 1) := by decide +kernel
theorem dX0_grudgesOfDoor_8 : decode cX0_grudgesOfDoor 8 = .ok (.getfield 77, 3) := by decide +kernel
theorem dX0_grudgesOfDoor_11 : decode cX0_grudgesOfDoor 11 = .ok (.if_icmp .ge 19, 3) := by decide +kernel
theorem dX0_grudgesOfDoor_14 : decode cX0_grudgesOfDoor 14 = .ok (.iload_n 3, 1) := by decide +kernel
theorem dX0_grudgesOfDoor_15 : decode cX0_grudgesOfDoor 15 = .ok (.aload_n 0, 1) := by decide +kernel
theorem dX0_grudgesOfDoor_16 : decode cX0_grudgesOfDoor 16 = .ok (.iload_n 2, 1) := by decide +kernel
theorem dX0_grudgesOfDoor_17 : decode cX0_grudgesOfDoor 17 = .ok (.iload 4, 2) := by decide +kernel
theorem dX0_grudgesOfDoor_19 : decode cX0_grudgesOfDoor 19 = .ok (.invokevirtual 59, 3) := by decide +kernel
theorem dX0_grudgesOfDoor_22 : decode cX0_grudgesOfDoor 22 = .ok (.iadd, 1) := by decide +kernel
theorem dX0_grudgesOfDoor_23 : decode cX0_grudgesOfDoor 23 = .ok (.istore_n 3, 1) := by decide +kernel
theorem dX0_grudgesOfDoor_24 : decode cX0_grudgesOfDoor 24 = .ok (.iinc 4 1, 3) := by decide +kernel
theorem dX0_grudgesOfDoor_27 : decode cX0_grudgesOfDoor 27 = .ok (.goto (-22), 3) := by decide +kernel
theorem dX0_grudgesOfDoor_30 : decode cX0_grudgesOfDoor 30 = .ok (.iload_n 3, 1) := by decide +kernel
theorem dX0_grudgesOfDoor_31 : decode cX0_grudgesOfDoor 31 = .ok (.ireturn, 1) := by decide +kernel
set_option maxRecDepth 20000 in
theorem ggX0_allGrudges_X0_grudgesOfDoor : GoodIn wsX0_allGrudges wsX0_grudgesOfDoor := goodIn_r _ [5, 6, 7, 8, 4, 9, 10, 11, 12, 13, 14, 15, 16, 17, 18, 19, 20, 21, 22, 23, 24, 25, 26, 27, 28, 29, 30, 31, 32, 33, 34] (by decide +kernel) (by decide +kernel)
set_option maxRecDepth 20000 in
theorem gX0_allGrudges_X0_grudgesOfDoor : GoodIn wsX0_allGrudges (wsV RX0 113 RX0 yX0_grudgesOfDoor wsX0_grudgesOfDoor) := goodIn_app (goodIn_of _ (by decide +kernel)) ggX0_allGrudges_X0_grudgesOfDoor
theorem dX0_allGrudges_0 : decode cX0_allGrudges 0 = .ok (.iconst 0, 1) := by decide +kernel
theorem dX0_allGrudges_1 : decode cX0_allGrudges 1 = .ok (.istore_n 2, 1) := by decide +kernel
theorem dX0_allGrudges_2 : decode cX0_allGrudges 2 = .ok (.iconst 0, 1) := by decide +kernel
theorem dX0_allGrudges_3 : decode cX0_allGrudges 3 = .ok (.istore_n 3, 1) := by decide +kernel
theorem dX0_allGrudges_4 : decode cX0_allGrudges 4 = .ok (.iload_n 3, 1) := by decide +kernel
theorem dX0_allGrudges_5 : decode cX0_allGrudges 5 = .ok (.aload_n 1, 1) := by decide +kernel
theorem dX0_allGrudges_6 : decode cX0_allGrudges 6 = .ok (.getfield 87, 3) := by decide +kernel
theorem dX0_allGrudges_9 : decode cX0_allGrudges 9 = .ok (.if_icmp .ge 18, 3) := by decide +kernel
theorem dX0_allGrudges_12 : decode cX0_allGrudges 12 = .ok (.iload_n 2, 1) := by decide +kernel
theorem dX0_allGrudges_13 : decode cX0_allGrudges 13 = .ok (.aload_n 0, 1) := by decide +kernel
theorem dX0_allGrudges_14 : decode cX0_allGrudges 14 = .ok (.aload_n 1, 1) := by decide +kernel
theorem dX0_allGrudges_15 : decode cX0_allGrudges 15 = .ok (.iload_n 3, 1) := by decide +kernel
theorem dX0_allGrudges_16 : decode cX0_allGrudges 16 = .ok (.invokevirtual 113, 3) := by decide +kernel
theorem dX0_allGrudges_19 : decode cX0_allGrudges 19 = .ok (.iadd, 1) := by decide +kernel
theorem dX0_allGrudges_20 : decode cX0_allGrudges 20 = .ok (.istore_n 2, 1) := by decide +kernel
theorem dX0_allGrudges_21 : decode cX0_allGrudges 21 = .ok (.iinc 3 1, 3) := by decide +kernel
theorem dX0_allGrudges_24 : decode cX0_allGrudges 24 = .ok (.goto (-20), 3) := by decide +kernel
theorem dX0_allGrudges_27 : decode cX0_allGrudges 27 = .ok (.iload_n 2, 1) := by decide +kernel
theorem dX0_allGrudges_28 : decode cX0_allGrudges 28 = .ok (.ireturn, 1) := by decide +kernel
set_option maxRecDepth 20000 in
theorem ggX1_init_X0_init : GoodIn wsX1_init wsX0_init := goodIn_r _ [13, 14, 2, 3, 15, 16, 17, 18, 19, 22, 23, 24, 25, 26, 27] (by decide +kernel) (by decide +kernel)
set_option maxRecDepth 20000 in
theorem gX1_init_X0_init_n21 : GoodIn wsX1_init (wsX0_init) := ggX1_init_X0_init
theorem dX1_init_0 : decode cX1_init 0 = .ok (.aload_n 0, 1) := by decide +kernel
theorem dX1_init_1 : decode cX1_init 1 = .ok (.invokespecial 1, 3) := by decide +kernel
theorem dX1_init_4 : decode cX1_init 4 = .ok (.aload_n 0, 1) := by decide +kernel
theorem dX1_init_5 : decode cX1_init 5 = .ok (.iconst 0, 1) := by decide +kernel
theorem dX1_init_6 : decode cX1_init 6 = .ok (.iload_n 1, 1) := by decide +kernel
theorem dX1_init_7 : decode cX1_init 7 = .ok (.invokestatic 7, 3) := by decide +kernel
theorem dX1_init_10 : decode cX1_init 10 = .ok (.anewarray 13, 3) := by decide +kernel
theorem dX1_init_13 : decode cX1_init 13 = .ok (.putfield 15, 3) := by decide +kernel
theorem dX1_init_16 : decode cX1_init 16 = .ok (.iconst 0, 1) := by decide +kernel
theorem dX1_init_17 : decode cX1_init 17 = .ok (.istore_n 2, 1) := by decide +kernel
theorem dX1_init_18 : decode cX1_init 18 = .ok (.iload_n 2, 1) := by decide +kernel
theorem dX1_init_19 : decode cX1_init 19 = .ok (.aload_n 0, 1) := by decide +kernel
theorem dX1_init_20 : decode cX1_init 20 = .ok (.getfield 15, 3) := by decide +kernel
theorem dX1_init_23 : decode cX1_init 23 = .ok (.arraylength, 1) := by decide +kernel
theorem dX1_init_24 : decode cX1_init 24 = .ok (.if_icmp .ge 22, 3) := by decide +kernel
theorem dX1_init_27 : decode cX1_init 27 = .ok (.aload_n 0, 1) := by decide +kernel
theorem dX1_init_28 : decode cX1_init 28 = .ok (.getfield 15, 3) := by decide +kernel
theorem dX1_init_31 : decode cX1_init 31 = .ok (.iload_n 2, 1) := by decide +kernel
theorem dX1_init_32 : decode cX1_init 32 = .ok (.new 13, 3) := by decide +kernel
theorem dX1_init_35 : decode cX1_init 35 = .ok (.dup, 1) := by decide +kernel
theorem dX1_init_36 : decode cX1_init 36 = .ok (.invokespecial 21, 3) := by decide +kernel
theorem dX1_init_39 : decode cX1_init 39 = .ok (.aastore, 1) := by decide +kernel
theorem dX1_init_40 : decode cX1_init 40 = .ok (.iinc 2 1, 3) := by decide +kernel
theorem dX1_init_43 : decode cX1_init 43 = .ok (.goto (-25), 3) := by decide +kernel
theorem dX1_init_46 : decode cX1_init 46 = .ok (.return_, 1) := by decide +kernel
theorem dX1_forgetAll_0 : decode cX1_forgetAll 0 = .ok (.aload_n 0, 1) := by decide +kernel
theorem dX1_forgetAll_1 : decode cX1_forgetAll 1 = .ok (.iconst 0, 1) := by decide +kernel
theorem dX1_forgetAll_2 : decode cX1_forgetAll 2 = .ok (.putfield 22, 3) := by decide +kernel
theorem dX1_forgetAll_5 : decode cX1_forgetAll 5 = .ok (.return_, 1) := by decide +kernel
set_option maxRecDepth 20000 in
theorem ggX1_push_X1_dropOldest : GoodIn wsX1_push wsX1_dropOldest := goodIn_r _ [7, 2, 1, 25, 26] (by decide +kernel) (by decide +kernel)
set_option maxRecDepth 20000 in
theorem gX1_push_X1_dropOldest : GoodIn wsX1_push (wsV RX1 26 RX1 yX1_dropOldest wsX1_dropOldest) := goodIn_app (goodIn_of _ (by decide +kernel)) ggX1_push_X1_dropOldest
set_option maxRecDepth 20000 in
theorem ggX1_push_X1_slotAt : GoodIn wsX1_push wsX1_slotAt := goodIn_r _ [11, 2, 25, 26] (by decide +kernel) (by decide +kernel)
set_option maxRecDepth 20000 in
theorem gX1_push_X1_slotAt : GoodIn wsX1_push (wsV RX1 29 RX1 yX1_slotAt wsX1_slotAt) := goodIn_app (goodIn_of _ (by decide +kernel)) ggX1_push_X1_slotAt
set_option maxRecDepth 20000 in
theorem ggX1_push_X0_become : GoodIn wsX1_push wsX0_become := goodIn_r _ [16, 17, 18, 19, 20, 21, 22, 23, 24, 27, 28, 29, 30, 31, 32] (by decide +kernel) (by decide +kernel)
set_option maxRecDepth 20000 in
theorem gX1_push_X0_become : GoodIn wsX1_push (wsV RX1 33 RX0 yX0_become wsX0_become) := goodIn_app (goodIn_of _ (by decide +kernel)) ggX1_push_X0_become
theorem dX1_push_0 : decode cX1_push 0 = .ok (.aload_n 0, 1) := by decide +kernel
theorem dX1_push_1 : decode cX1_push 1 = .ok (.getfield 22, 3) := by decide +kernel
theorem dX1_push_4 : decode cX1_push 4 = .ok (.aload_n 0, 1) := by decide +kernel
theorem dX1_push_5 : decode cX1_push 5 = .ok (.getfield 15, 3) := by decide +kernel
theorem dX1_push_8 : decode cX1_push 8 = .ok (.arraylength, 1) := by decide +kernel
theorem dX1_push_9 : decode cX1_push 9 = .ok (.if_icmp .lt 7, 3) := by decide +kernel
theorem dX1_push_12 : decode cX1_push 12 = .ok (.aload_n 0, 1) := by decide +kernel
theorem dX1_push_13 : decode cX1_push 13 = .ok (.invokevirtual 26, 3) := by decide +kernel
theorem dX1_push_16 : decode cX1_push 16 = .ok (.aload_n 0, 1) := by decide +kernel
theorem dX1_push_17 : decode cX1_push 17 = .ok (.aload_n 0, 1) := by decide +kernel
theorem dX1_push_18 : decode cX1_push 18 = .ok (.getfield 22, 3) := by decide +kernel
theorem dX1_push_21 : decode cX1_push 21 = .ok (.invokevirtual 29, 3) := by decide +kernel
theorem dX1_push_24 : decode cX1_push 24 = .ok (.astore_n 2, 1) := by decide +kernel
theorem dX1_push_25 : decode cX1_push 25 = .ok (.aload_n 2, 1) := by decide +kernel
theorem dX1_push_26 : decode cX1_push 26 = .ok (.ifnull 18, 3) := by decide +kernel
theorem dX1_push_29 : decode cX1_push 29 = .ok (.aload_n 2, 1) := by decide +kernel
theorem dX1_push_30 : decode cX1_push 30 = .ok (.aload_n 1, 1) := by decide +kernel
theorem dX1_push_31 : decode cX1_push 31 = .ok (.invokevirtual 33, 3) := by decide +kernel
theorem dX1_push_34 : decode cX1_push 34 = .ok (.aload_n 0, 1) := by decide +kernel
theorem dX1_push_35 : decode cX1_push 35 = .ok (.dup, 1) := by decide +kernel
theorem dX1_push_36 : decode cX1_push 36 = .ok (.getfield 22, 3) := by decide +kernel
theorem dX1_push_39 : decode cX1_push 39 = .ok (.iconst 1, 1) := by decide +kernel
theorem dX1_push_40 : decode cX1_push 40 = .ok (.iadd, 1) := by decide +kernel
theorem dX1_push_41 : decode cX1_push 41 = .ok (.putfield 22, 3) := by decide +kernel
theorem dX1_push_44 : decode cX1_push 44 = .ok (.return_, 1) := by decide +kernel
set_option maxRecDepth 20000 in
theorem ggX1_pop_X1_slotAt : GoodIn wsX1_pop wsX1_slotAt := goodIn_r _ [6, 7, 21, 22] (by decide +kernel) (by decide +kernel)
set_option maxRecDepth 20000 in
theorem gX1_pop_X1_slotAt : GoodIn wsX1_pop (wsV RX1 29 RX1 yX1_slotAt wsX1_slotAt) := goodIn_app (goodIn_of _ (by decide +kernel)) ggX1_pop_X1_slotAt
set_option maxRecDepth 20000 in
theorem ggX1_pop_X0_become : GoodIn wsX1_pop wsX0_become := goodIn_r _ [12, 13, 14, 15, 16, 17, 18, 19, 20, 23, 24, 25, 26, 27, 28] (by decide +kernel) (by decide +kernel)
set_option maxRecDepth 20000 in
theorem gX1_pop_X0_become : GoodIn wsX1_pop (wsV RX1 33 RX0 yX0_become wsX0_become) := goodIn_app (goodIn_of _ (by decide +kernel)) ggX1_pop_X0_become
theorem dX1_pop_0 : decode cX1_pop 0 = .ok (.aload_n 0, 1) := by decide +kernel
theorem dX1_pop_1 : decode cX1_pop 1 = .ok (.aload_n 0, 1) := by decide +kernel
theorem dX1_pop_2 : decode cX1_pop 2 = .ok (.getfield 22, 3) := by decide +kernel
theorem dX1_pop_5 : decode cX1_pop 5 = .ok (.iconst 1, 1) := by decide +kernel
theorem dX1_pop_6 : decode cX1_pop 6 = .ok (.isub, 1) := by decide +kernel
theorem dX1_pop_7 : decode cX1_pop 7 = .ok (.invokevirtual 29, 3) := by decide +kernel
theorem dX1_pop_10 : decode cX1_pop 10 = .ok (.astore_n 2, 1) := by decide +kernel
theorem dX1_pop_11 : decode cX1_pop 11 = .ok (.aload_n 2, 1) := by decide +kernel
theorem dX1_pop_12 : decode cX1_pop 12 = .ok (.ifnonnull 5, 3) := by decide +kernel
theorem dX1_pop_15 : decode cX1_pop 15 = .ok (.iconst 0, 1) := by decide +kernel
theorem dX1_pop_16 : decode cX1_pop 16 = .ok (.ireturn, 1) := by decide +kernel
theorem dX1_pop_17 : decode cX1_pop 17 = .ok (.aload_n 1, 1) := by decide +kernel
theorem dX1_pop_18 : decode cX1_pop 18 = .ok (.aload_n 2, 1) := by decide +kernel
theorem dX1_pop_19 : decode cX1_pop 19 = .ok (.invokevirtual 33, 3) := by decide +kernel
theorem dX1_pop_22 : decode cX1_pop 22 = .ok (.aload_n 0, 1) := by decide +kernel
theorem dX1_pop_23 : decode cX1_pop 23 = .ok (.dup, 1) := by decide +kernel
theorem dX1_pop_24 : decode cX1_pop 24 = .ok (.getfield 22, 3) := by decide +kernel
theorem dX1_pop_27 : decode cX1_pop 27 = .ok (.iconst 1, 1) := by decide +kernel
theorem dX1_pop_28 : decode cX1_pop 28 = .ok (.isub, 1) := by decide +kernel
theorem dX1_pop_29 : decode cX1_pop 29 = .ok (.putfield 22, 3) := by decide +kernel
theorem dX1_pop_32 : decode cX1_pop 32 = .ok (.iconst 1, 1) := by decide +kernel
theorem dX1_pop_33 : decode cX1_pop 33 = .ok (.ireturn, 1) := by decide +kernel
theorem dX1_slotAt_0 : decode cX1_slotAt 0 = .ok (.iload_n 1, 1) := by decide +kernel
theorem dX1_slotAt_1 : decode cX1_slotAt 1 = .ok (.ifCond .lt 21, 3) := by decide +kernel
theorem dX1_slotAt_4 : decode cX1_slotAt 4 = .ok (.iload_n 1, 1) := by decide +kernel
theorem dX1_slotAt_5 : decode cX1_slotAt 5 = .ok (.aload_n 0, 1) := by decide +kernel
theorem dX1_slotAt_6 : decode cX1_slotAt 6 = .ok (.getfield 15, 3) := by decide +kernel
theorem dX1_slotAt_9 : decode cX1_slotAt 9 = .ok (.arraylength, 1) := by decide +kernel
theorem dX1_slotAt_10 : decode cX1_slotAt 10 = .ok (.if_icmp .ge 12, 3) := by decide +kernel
theorem dX1_slotAt_13 : decode cX1_slotAt 13 = .ok (.aload_n 0, 1) := by decide +kernel
theorem dX1_slotAt_14 : decode cX1_slotAt 14 = .ok (.getfield 15, 3) := by decide +kernel
theorem dX1_slotAt_17 : decode cX1_slotAt 17 = .ok (.iload_n 1, 1) := by decide +kernel
theorem dX1_slotAt_18 : decode cX1_slotAt 18 = .ok (.aaload, 1) := by decide +kernel
theorem dX1_slotAt_19 : decode cX1_slotAt 19 = .ok (.goto 4, 3) := by decide +kernel
theorem dX1_slotAt_22 : decode cX1_slotAt 22 = .ok (.aconst_null, 1) := by decide +kernel
theorem dX1_slotAt_23 : decode cX1_slotAt 23 = .ok (.areturn, 1) := by decide +kernel
theorem dX1_dropOldest_0 : decode cX1_dropOldest 0 = .ok (.aload_n 0, 1) := by decide +kernel
theorem dX1_dropOldest_1 : decode cX1_dropOldest 1 = .ok (.getfield 15, 3) := by decide +kernel
theorem dX1_dropOldest_4 : decode cX1_dropOldest 4 = .ok (.arraylength, 1) := by decide +kernel
theorem dX1_dropOldest_5 : decode cX1_dropOldest 5 = .ok (.iconst 1, 1) := by decide +kernel
theorem dX1_dropOldest_6 : decode cX1_dropOldest 6 = .ok (.if_icmp .ge 4, 3) := by decide +kernel
theorem dX1_dropOldest_9 : decode cX1_dropOldest 9 = .ok (.return_, 1) := by decide +kernel
theorem dX1_dropOldest_10 : decode cX1_dropOldest 10 = .ok (.aload_n 0, 1) := by decide +kernel
theorem dX1_dropOldest_11 : decode cX1_dropOldest 11 = .ok (.getfield 15, 3) := by decide +kernel
theorem dX1_dropOldest_14 : decode cX1_dropOldest 14 = .ok (.iconst 0, 1) := by decide +kernel
theorem dX1_dropOldest_15 : decode cX1_dropOldest 15 = .ok (.aaload, 1) := by decide +kernel
theorem dX1_dropOldest_16 : decode cX1_dropOldest 16 = .ok (.astore_n 1, 1) := by decide +kernel
theorem dX1_dropOldest_17 : decode cX1_dropOldest 17 = .ok (.iconst 1, 1) := by decide +kernel
theorem dX1_dropOldest_18 : decode cX1_dropOldest 18 = .ok (.istore_n 2, 1) := by decide +kernel
theorem dX1_dropOldest_19 : decode cX1_dropOldest 19 = .ok (.iload_n 2, 1) := by decide +kernel
theorem dX1_dropOldest_20 : decode cX1_dropOldest 20 = .ok (.aload_n 0, 1) := by decide +kernel
theorem dX1_dropOldest_21 : decode cX1_dropOldest 21 = .ok (.getfield 15, 3) := by decide +kernel
theorem dX1_dropOldest_24 : decode cX1_dropOldest 24 = .ok (.arraylength, 1) := by decide +kernel
theorem dX1_dropOldest_25 : decode cX1_dropOldest 25 = .ok (.if_icmp .ge 23, 3) := by decide +kernel
theorem dX1_dropOldest_28 : decode cX1_dropOldest 28 = .ok (.aload_n 0, 1) := by decide +kernel
theorem dX1_dropOldest_29 : decode cX1_dropOldest 29 = .ok (.getfield 15, 3) := by decide +kernel
theorem dX1_dropOldest_32 : decode cX1_dropOldest 32 = .ok (.iload_n 2, 1) := by decide +kernel
theorem dX1_dropOldest_33 : decode cX1_dropOldest 33 = .ok (.iconst 1, 1) := by decide +kernel
theorem dX1_dropOldest_34 : decode cX1_dropOldest 34 = .ok (.isub, 1) := by decide +kernel
theorem dX1_dropOldest_35 : decode cX1_dropOldest 35 = .ok (.aload_n 0, 1) := by decide +kernel
theorem dX1_dropOldest_36 : decode cX1_dropOldest 36 = .ok (.getfield 15, 3) := by decide +kernel
theorem dX1_dropOldest_39 : decode cX1_dropOldest 39 = .ok (.iload_n 2, 1) := by decide +kernel
theorem dX1_dropOldest_40 : decode cX1_dropOldest 40 = .ok (.aaload, 1) := by decide +kernel
theorem dX1_dropOldest_41 : decode cX1_dropOldest 41 = .ok (.aastore, 1) := by decide +kernel
theorem dX1_dropOldest_42 : decode cX1_dropOldest 42 = .ok (.iinc 2 1, 3) := by decide +kernel
theorem dX1_dropOldest_45 : decode cX1_dropOldest 45 = .ok (.goto (-26), 3) := by decide +kernel
theorem dX1_dropOldest_48 : decode cX1_dropOldest 48 = .ok (.aload_n 0, 1) := by decide +kernel
theorem dX1_dropOldest_49 : decode cX1_dropOldest 49 = .ok (.getfield 15, 3) := by decide +kernel
theorem dX1_dropOldest_52 : decode cX1_dropOldest 52 = .ok (.aload_n 0, 1) := by decide +kernel
theorem dX1_dropOldest_53 : decode cX1_dropOldest 53 = .ok (.getfield 15, 3) := by decide +kernel
theorem dX1_dropOldest_56 : decode cX1_dropOldest 56 = .ok (.arraylength, 1) := by decide +kernel
theorem dX1_dropOldest_57 : decode cX1_dropOldest 57 = .ok (.iconst 1, 1) := by decide +kernel
theorem dX1_dropOldest_58 : decode cX1_dropOldest 58 = .ok (.isub, 1) := by decide +kernel
theorem dX1_dropOldest_59 : decode cX1_dropOldest 59 = .ok (.aload_n 1, 1) := by decide +kernel
theorem dX1_dropOldest_60 : decode cX1_dropOldest 60 = .ok (.aastore, 1) := by decide +kernel
theorem dX1_dropOldest_61 : decode cX1_dropOldest 61 = .ok (.aload_n 0, 1) := by decide +kernel
theorem dX1_dropOldest_62 : decode cX1_dropOldest 62 = .ok (.aload_n 0, 1) := by decide +kernel
theorem dX1_dropOldest_63 : decode cX1_dropOldest 63 = .ok (.getfield 15, 3) := by decide +kernel
theorem dX1_dropOldest_66 : decode cX1_dropOldest 66 = .ok (.arraylength, 1) := by decide +kernel
theorem dX1_dropOldest_67 : decode cX1_dropOldest 67 = .ok (.iconst 1, 1) := by decide +kernel
theorem dX1_dropOldest_68 : decode cX1_dropOldest 68 = .ok (.isub, 1) := by decide +kernel
theorem dX1_dropOldest_69 : decode cX1_dropOldest 69 = .ok (.putfield 22, 3) := by decide +kernel
theorem dX1_dropOldest_72 : decode cX1_dropOldest 72 = .ok (.return_, 1) := by decide +kernel
theorem dX2_init_0 : decode cX2_init 0 = .ok (.aload_n 0, 1) := by decide +kernel
theorem dX2_init_1 : decode cX2_init 1 = .ok (.invokespecial 3, 3) := by decide +kernel
theorem dX2_init_4 : decode cX2_init 4 = .ok (.aload_n 0, 1) := by decide +kernel
theorem dX2_init_5 : decode cX2_init 5 = .ok (.bipush 8, 2) := by decide +kernel
theorem dX2_init_7 : decode cX2_init 7 = .ok (.newarray .int, 2) := by decide +kernel
theorem dX2_init_9 : decode cX2_init 9 = .ok (.putfield 9, 3) := by decide +kernel
theorem dX2_init_12 : decode cX2_init 12 = .ok (.aload_n 0, 1) := by decide +kernel
theorem dX2_init_13 : decode cX2_init 13 = .ok (.bipush 8, 2) := by decide +kernel
theorem dX2_init_15 : decode cX2_init 15 = .ok (.newarray .int, 2) := by decide +kernel
theorem dX2_init_17 : decode cX2_init 17 = .ok (.putfield 15, 3) := by decide +kernel
theorem dX2_init_20 : decode cX2_init 20 = .ok (.aload_n 0, 1) := by decide +kernel
theorem dX2_init_21 : decode cX2_init 21 = .ok (.bipush 8, 2) := by decide +kernel
theorem dX2_init_23 : decode cX2_init 23 = .ok (.newarray .int, 2) := by decide +kernel
theorem dX2_init_25 : decode cX2_init 25 = .ok (.putfield 18, 3) := by decide +kernel
theorem dX2_init_28 : decode cX2_init 28 = .ok (.aload_n 0, 1) := by decide +kernel
theorem dX2_init_29 : decode cX2_init 29 = .ok (.bipush 8, 2) := by decide +kernel
theorem dX2_init_31 : decode cX2_init 31 = .ok (.newarray .int, 2) := by decide +kernel
theorem dX2_init_33 : decode cX2_init 33 = .ok (.putfield 21, 3) := by decide +kernel
theorem dX2_init_36 : decode cX2_init 36 = .ok (.aload_n 0, 1) := by decide +kernel
theorem dX2_init_37 : decode cX2_init 37 = .ok (.iconst 4, 1) := by decide +kernel
theorem dX2_init_38 : decode cX2_init 38 = .ok (.newarray .int, 2) := by decide +kernel
theorem dX2_init_40 : decode cX2_init 40 = .ok (.putfield 24, 3) := by decide +kernel
theorem dX2_init_43 : decode cX2_init 43 = .ok (.aload_n 0, 1) := by decide +kernel
theorem dX2_init_44 : decode cX2_init 44 = .ok (.iconst 4, 1) := by decide +kernel
theorem dX2_init_45 : decode cX2_init 45 = .ok (.newarray .int, 2) := by decide +kernel
theorem dX2_init_47 : decode cX2_init 47 = .ok (.putfield 27, 3) := by decide +kernel
theorem dX2_init_50 : decode cX2_init 50 = .ok (.aload_n 0, 1) := by decide +kernel
theorem dX2_init_51 : decode cX2_init 51 = .ok (.iconst 4, 1) := by decide +kernel
theorem dX2_init_52 : decode cX2_init 52 = .ok (.newarray .int, 2) := by decide +kernel
theorem dX2_init_54 : decode cX2_init 54 = .ok (.putfield 30, 3) := by decide +kernel
theorem dX2_init_57 : decode cX2_init 57 = .ok (.aload_n 0, 1) := by decide +kernel
theorem dX2_init_58 : decode cX2_init 58 = .ok (.bipush 32, 2) := by decide +kernel
theorem dX2_init_60 : decode cX2_init 60 = .ok (.newarray .int, 2) := by decide +kernel
theorem dX2_init_62 : decode cX2_init 62 = .ok (.putfield 33, 3) := by decide +kernel
theorem dX2_init_65 : decode cX2_init 65 = .ok (.aload_n 0, 1) := by decide +kernel
theorem dX2_init_66 : decode cX2_init 66 = .ok (.iconst 3, 1) := by decide +kernel
theorem dX2_init_67 : decode cX2_init 67 = .ok (.putfield 36, 3) := by decide +kernel
theorem dX2_init_70 : decode cX2_init 70 = .ok (.aload_n 0, 1) := by decide +kernel
theorem dX2_init_71 : decode cX2_init 71 = .ok (.iconst 3, 1) := by decide +kernel
theorem dX2_init_72 : decode cX2_init 72 = .ok (.putfield 40, 3) := by decide +kernel
theorem dX2_init_75 : decode cX2_init 75 = .ok (.aload_n 0, 1) := by decide +kernel
theorem dX2_init_76 : decode cX2_init 76 = .ok (.iconst 1, 1) := by decide +kernel
theorem dX2_init_77 : decode cX2_init 77 = .ok (.putfield 43, 3) := by decide +kernel
theorem dX2_init_80 : decode cX2_init 80 = .ok (.aload_n 0, 1) := by decide +kernel
theorem dX2_init_81 : decode cX2_init 81 = .ok (.iconst 1, 1) := by decide +kernel
theorem dX2_init_82 : decode cX2_init 82 = .ok (.putfield 46, 3) := by decide +kernel
theorem dX2_init_85 : decode cX2_init 85 = .ok (.aload_n 0, 1) := by decide +kernel
theorem dX2_init_86 : decode cX2_init 86 = .ok (.iconst 2, 1) := by decide +kernel
theorem dX2_init_87 : decode cX2_init 87 = .ok (.putfield 49, 3) := by decide +kernel
theorem dX2_init_90 : decode cX2_init 90 = .ok (.return_, 1) := by decide +kernel
set_option maxRecDepth 20000 in
theorem ggX2_clear_X6_fill : GoodIn wsX2_clear wsX6_fill := goodIn_r _ [12] (by decide +kernel) (by decide +kernel)
set_option maxRecDepth 20000 in
theorem gX2_clear_X6_fill_n52 : GoodIn wsX2_clear (wsX6_fill) := ggX2_clear_X6_fill
theorem dX2_clear_0 : decode cX2_clear 0 = .ok (.aload_n 0, 1) := by decide +kernel
theorem dX2_clear_1 : decode cX2_clear 1 = .ok (.getfield 21, 3) := by decide +kernel
theorem dX2_clear_4 : decode cX2_clear 4 = .ok (.iconst 0, 1) := by decide +kernel
theorem dX2_clear_5 : decode cX2_clear 5 = .ok (.invokestatic 52, 3) := by decide +kernel
theorem dX2_clear_8 : decode cX2_clear 8 = .ok (.aload_n 0, 1) := by decide +kernel
theorem dX2_clear_9 : decode cX2_clear 9 = .ok (.getfield 33, 3) := by decide +kernel
theorem dX2_clear_12 : decode cX2_clear 12 = .ok (.iconst 0, 1) := by decide +kernel
theorem dX2_clear_13 : decode cX2_clear 13 = .ok (.invokestatic 52, 3) := by decide +kernel
theorem dX2_clear_16 : decode cX2_clear 16 = .ok (.aload_n 0, 1) := by decide +kernel
theorem dX2_clear_17 : decode cX2_clear 17 = .ok (.iconst 3, 1) := by decide +kernel
theorem dX2_clear_18 : decode cX2_clear 18 = .ok (.putfield 36, 3) := by decide +kernel
theorem dX2_clear_21 : decode cX2_clear 21 = .ok (.aload_n 0, 1) := by decide +kernel
theorem dX2_clear_22 : decode cX2_clear 22 = .ok (.iconst 0, 1) := by decide +kernel
theorem dX2_clear_23 : decode cX2_clear 23 = .ok (.putfield 56, 3) := by decide +kernel
theorem dX2_clear_26 : decode cX2_clear 26 = .ok (.aload_n 0, 1) := by decide +kernel
theorem dX2_clear_27 : decode cX2_clear 27 = .ok (.iconst 0, 1) := by decide +kernel
theorem dX2_clear_28 : decode cX2_clear 28 = .ok (.putfield 59, 3) := by decide +kernel
theorem dX2_clear_31 : decode cX2_clear 31 = .ok (.aload_n 0, 1) := by decide +kernel
theorem dX2_clear_32 : decode cX2_clear 32 = .ok (.iconst 3, 1) := by decide +kernel
theorem dX2_clear_33 : decode cX2_clear 33 = .ok (.putfield 40, 3) := by decide +kernel
theorem dX2_clear_36 : decode cX2_clear 36 = .ok (.aload_n 0, 1) := by decide +kernel
theorem dX2_clear_37 : decode cX2_clear 37 = .ok (.iconst 1, 1) := by decide +kernel
theorem dX2_clear_38 : decode cX2_clear 38 = .ok (.putfield 43, 3) := by decide +kernel
theorem dX2_clear_41 : decode cX2_clear 41 = .ok (.aload_n 0, 1) := by decide +kernel
theorem dX2_clear_42 : decode cX2_clear 42 = .ok (.iconst 1, 1) := by decide +kernel
theorem dX2_clear_43 : decode cX2_clear 43 = .ok (.putfield 46, 3) := by decide +kernel
theorem dX2_clear_46 : decode cX2_clear 46 = .ok (.aload_n 0, 1) := by decide +kernel
theorem dX2_clear_47 : decode cX2_clear 47 = .ok (.iconst 2, 1) := by decide +kernel
theorem dX2_clear_48 : decode cX2_clear 48 = .ok (.putfield 49, 3) := by decide +kernel
theorem dX2_clear_51 : decode cX2_clear 51 = .ok (.return_, 1) := by decide +kernel
set_option maxRecDepth 20000 in
theorem ggX2_addDoor_X6_put : GoodIn wsX2_addDoor wsX6_put := goodIn_r _ [7] (by decide +kernel) (by decide +kernel)
set_option maxRecDepth 20000 in
theorem gX2_addDoor_X6_put_n62 : GoodIn wsX2_addDoor (wsX6_put) := ggX2_addDoor_X6_put
theorem dX2_addDoor_0 : decode cX2_addDoor 0 = .ok (.aload_n 0, 1) := by decide +kernel
theorem dX2_addDoor_1 : decode cX2_addDoor 1 = .ok (.getfield 9, 3) := by decide +kernel
theorem dX2_addDoor_4 : decode cX2_addDoor 4 = .ok (.aload_n 0, 1) := by decide +kernel
theorem dX2_addDoor_5 : decode cX2_addDoor 5 = .ok (.getfield 56, 3) := by decide +kernel
theorem dX2_addDoor_8 : decode cX2_addDoor 8 = .ok (.iload_n 1, 1) := by decide +kernel
theorem dX2_addDoor_9 : decode cX2_addDoor 9 = .ok (.invokestatic 62, 3) := by decide +kernel
theorem dX2_addDoor_12 : decode cX2_addDoor 12 = .ok (.aload_n 0, 1) := by decide +kernel
theorem dX2_addDoor_13 : decode cX2_addDoor 13 = .ok (.getfield 15, 3) := by decide +kernel
theorem dX2_addDoor_16 : decode cX2_addDoor 16 = .ok (.aload_n 0, 1) := by decide +kernel
theorem dX2_addDoor_17 : decode cX2_addDoor 17 = .ok (.getfield 56, 3) := by decide +kernel
theorem dX2_addDoor_20 : decode cX2_addDoor 20 = .ok (.iload_n 2, 1) := by decide +kernel
theorem dX2_addDoor_21 : decode cX2_addDoor 21 = .ok (.invokestatic 62, 3) := by decide +kernel
theorem dX2_addDoor_24 : decode cX2_addDoor 24 = .ok (.aload_n 0, 1) := by decide +kernel
theorem dX2_addDoor_25 : decode cX2_addDoor 25 = .ok (.getfield 18, 3) := by decide +kernel
theorem dX2_addDoor_28 : decode cX2_addDoor 28 = .ok (.aload_n 0, 1) := by decide +kernel
theorem dX2_addDoor_29 : decode cX2_addDoor 29 = .ok (.getfield 56, 3) := by decide +kernel
theorem dX2_addDoor_32 : decode cX2_addDoor 32 = .ok (.iload_n 3, 1) := by decide +kernel
theorem dX2_addDoor_33 : decode cX2_addDoor 33 = .ok (.invokestatic 62, 3) := by decide +kernel
theorem dX2_addDoor_36 : decode cX2_addDoor 36 = .ok (.aload_n 0, 1) := by decide +kernel
theorem dX2_addDoor_37 : decode cX2_addDoor 37 = .ok (.dup, 1) := by decide +kernel
theorem dX2_addDoor_38 : decode cX2_addDoor 38 = .ok (.getfield 56, 3) := by decide +kernel
theorem dX2_addDoor_41 : decode cX2_addDoor 41 = .ok (.iconst 1, 1) := by decide +kernel
theorem dX2_addDoor_42 : decode cX2_addDoor 42 = .ok (.iadd, 1) := by decide +kernel
theorem dX2_addDoor_43 : decode cX2_addDoor 43 = .ok (.putfield 56, 3) := by decide +kernel
theorem dX2_addDoor_46 : decode cX2_addDoor 46 = .ok (.return_, 1) := by decide +kernel
set_option maxRecDepth 20000 in
theorem ggX2_addLodger_X6_put : GoodIn wsX2_addLodger wsX6_put := goodIn_r _ [7] (by decide +kernel) (by decide +kernel)
set_option maxRecDepth 20000 in
theorem gX2_addLodger_X6_put_n62 : GoodIn wsX2_addLodger (wsX6_put) := ggX2_addLodger_X6_put
theorem dX2_addLodger_0 : decode cX2_addLodger 0 = .ok (.aload_n 0, 1) := by decide +kernel
theorem dX2_addLodger_1 : decode cX2_addLodger 1 = .ok (.getfield 24, 3) := by decide +kernel
theorem dX2_addLodger_4 : decode cX2_addLodger 4 = .ok (.aload_n 0, 1) := by decide +kernel
theorem dX2_addLodger_5 : decode cX2_addLodger 5 = .ok (.getfield 59, 3) := by decide +kernel
theorem dX2_addLodger_8 : decode cX2_addLodger 8 = .ok (.iload_n 1, 1) := by decide +kernel
theorem dX2_addLodger_9 : decode cX2_addLodger 9 = .ok (.invokestatic 62, 3) := by decide +kernel
theorem dX2_addLodger_12 : decode cX2_addLodger 12 = .ok (.aload_n 0, 1) := by decide +kernel
theorem dX2_addLodger_13 : decode cX2_addLodger 13 = .ok (.getfield 27, 3) := by decide +kernel
theorem dX2_addLodger_16 : decode cX2_addLodger 16 = .ok (.aload_n 0, 1) := by decide +kernel
theorem dX2_addLodger_17 : decode cX2_addLodger 17 = .ok (.getfield 59, 3) := by decide +kernel
theorem dX2_addLodger_20 : decode cX2_addLodger 20 = .ok (.iload_n 2, 1) := by decide +kernel
theorem dX2_addLodger_21 : decode cX2_addLodger 21 = .ok (.invokestatic 62, 3) := by decide +kernel
theorem dX2_addLodger_24 : decode cX2_addLodger 24 = .ok (.aload_n 0, 1) := by decide +kernel
theorem dX2_addLodger_25 : decode cX2_addLodger 25 = .ok (.getfield 30, 3) := by decide +kernel
theorem dX2_addLodger_28 : decode cX2_addLodger 28 = .ok (.aload_n 0, 1) := by decide +kernel
theorem dX2_addLodger_29 : decode cX2_addLodger 29 = .ok (.getfield 59, 3) := by decide +kernel
theorem dX2_addLodger_32 : decode cX2_addLodger 32 = .ok (.iload_n 3, 1) := by decide +kernel
theorem dX2_addLodger_33 : decode cX2_addLodger 33 = .ok (.invokestatic 62, 3) := by decide +kernel
theorem dX2_addLodger_36 : decode cX2_addLodger 36 = .ok (.aload_n 0, 1) := by decide +kernel
theorem dX2_addLodger_37 : decode cX2_addLodger 37 = .ok (.dup, 1) := by decide +kernel
theorem dX2_addLodger_38 : decode cX2_addLodger 38 = .ok (.getfield 59, 3) := by decide +kernel
theorem dX2_addLodger_41 : decode cX2_addLodger 41 = .ok (.iconst 1, 1) := by decide +kernel
theorem dX2_addLodger_42 : decode cX2_addLodger 42 = .ok (.iadd, 1) := by decide +kernel
theorem dX2_addLodger_43 : decode cX2_addLodger 43 = .ok (.putfield 59, 3) := by decide +kernel
theorem dX2_addLodger_46 : decode cX2_addLodger 46 = .ok (.return_, 1) := by decide +kernel
set_option maxRecDepth 20000 in
theorem ggX2_take_X6_at : GoodIn wsX2_take wsX6_at := goodIn_r _ [3] (by decide +kernel) (by decide +kernel)
set_option maxRecDepth 20000 in
theorem gX2_take_X6_at_n66 : GoodIn wsX2_take (wsX6_at) := ggX2_take_X6_at
set_option maxRecDepth 20000 in
theorem ggX2_take_X2_takeRooms : GoodIn wsX2_take wsX2_takeRooms := goodIn_r _ [8, 9, 10, 11, 2, 12, 64, 65, 66, 67, 68, 69, 70, 71, 72, 73, 74, 75, 76, 77, 78] (by decide +kernel) (by decide +kernel)
set_option maxRecDepth 20000 in
theorem gX2_take_X2_takeRooms : GoodIn wsX2_take (wsV RX2 70 RX2 yX2_takeRooms wsX2_takeRooms) := goodIn_app (goodIn_of _ (by decide +kernel)) ggX2_take_X2_takeRooms
set_option maxRecDepth 20000 in
theorem ggX2_take_X2_takeDoor : GoodIn wsX2_take wsX2_takeDoor := goodIn_r _ [16, 10, 9, 17, 18, 19, 7, 20, 21, 22, 23, 24, 2, 25, 64, 65, 66, 67, 68, 69, 70, 71, 72, 73, 74, 75, 76, 77, 78] (by decide +kernel) (by decide +kernel)
set_option maxRecDepth 20000 in
theorem gX2_take_X2_takeDoor : GoodIn wsX2_take (wsV RX2 74 RX2 yX2_takeDoor wsX2_takeDoor) := goodIn_app (goodIn_of _ (by decide +kernel)) ggX2_take_X2_takeDoor
set_option maxRecDepth 20000 in
theorem ggX2_take_X2_takeLodger : GoodIn wsX2_take wsX2_takeLodger := goodIn_r _ [29, 30, 11, 2, 12, 31, 32, 33, 7, 34, 35, 36, 37, 24, 25, 64, 65, 66, 67, 68, 69, 70, 71, 72, 73, 74, 75, 76, 77, 78] (by decide +kernel) (by decide +kernel)
set_option maxRecDepth 20000 in
theorem gX2_take_X2_takeLodger : GoodIn wsX2_take (wsV RX2 78 RX2 yX2_takeLodger wsX2_takeLodger) := goodIn_app (goodIn_of _ (by decide +kernel)) ggX2_take_X2_takeLodger
set_option maxRecDepth 20000 in
theorem ggX2_take_X2_takeGrudge : GoodIn wsX2_take wsX2_takeGrudge := goodIn_r _ [41, 9, 30, 42, 24, 2, 25, 64, 65, 66, 67, 68, 69, 70, 71, 72, 73, 74, 75, 76, 77, 78] (by decide +kernel) (by decide +kernel)
set_option maxRecDepth 20000 in
theorem gX2_take_X2_takeGrudge : GoodIn wsX2_take (wsV RX2 81 RX2 yX2_takeGrudge wsX2_takeGrudge) := goodIn_app (goodIn_of _ (by decide +kernel)) ggX2_take_X2_takeGrudge
set_option maxRecDepth 20000 in
theorem ggX2_take_X2_takePassing : GoodIn wsX2_take wsX2_takePassing := goodIn_r _ [46, 47, 48, 64, 65, 66, 67, 68, 69, 70, 71, 72, 73, 74, 75, 76, 77, 78] (by decide +kernel) (by decide +kernel)
set_option maxRecDepth 20000 in
theorem gX2_take_X2_takePassing : GoodIn wsX2_take (wsV RX2 84 RX2 yX2_takePassing wsX2_takePassing) := goodIn_app (goodIn_of _ (by decide +kernel)) ggX2_take_X2_takePassing
set_option maxRecDepth 20000 in
theorem ggX2_take_X2_takeWear : GoodIn wsX2_take wsX2_takeWear := goodIn_r _ [52, 53, 64, 65, 66, 67, 68, 69, 70, 71, 72, 73, 74, 75, 76, 77, 78] (by decide +kernel) (by decide +kernel)
set_option maxRecDepth 20000 in
theorem gX2_take_X2_takeWear : GoodIn wsX2_take (wsV RX2 88 RX2 yX2_takeWear wsX2_takeWear) := goodIn_app (goodIn_of _ (by decide +kernel)) ggX2_take_X2_takeWear
set_option maxRecDepth 20000 in
theorem ggX2_take_X2_takeOil : GoodIn wsX2_take wsX2_takeOil := goodIn_r _ [57, 58, 11, 2, 12, 64, 65, 66, 67, 68, 69, 70, 71, 72, 73, 74, 75, 76, 77, 78] (by decide +kernel) (by decide +kernel)
set_option maxRecDepth 20000 in
theorem gX2_take_X2_takeOil : GoodIn wsX2_take (wsV RX2 91 RX2 yX2_takeOil wsX2_takeOil) := goodIn_app (goodIn_of _ (by decide +kernel)) ggX2_take_X2_takeOil
set_option maxRecDepth 20000 in
theorem ggX2_take_X2_takeDraught : GoodIn wsX2_take wsX2_takeDraught := goodIn_r _ [62, 9, 63, 24, 2, 25, 64, 65, 66, 67, 68, 69, 70, 71, 72, 73, 74, 75, 76, 77, 78] (by decide +kernel) (by decide +kernel)
set_option maxRecDepth 20000 in
theorem gX2_take_X2_takeDraught : GoodIn wsX2_take (wsV RX2 94 RX2 yX2_takeDraught wsX2_takeDraught) := goodIn_app (goodIn_of _ (by decide +kernel)) ggX2_take_X2_takeDraught
theorem dX2_take_0 : decode cX2_take 0 = .ok (.aload_n 3, 1) := by decide +kernel
theorem dX2_take_1 : decode cX2_take 1 = .ok (.iconst 0, 1) := by decide +kernel
theorem dX2_take_2 : decode cX2_take 2 = .ok (.invokestatic 66, 3) := by decide +kernel
theorem dX2_take_5 : decode cX2_take 5 = .ok (.istore 4, 2) := by decide +kernel
theorem dX2_take_7 : decode cX2_take 7 = .ok (.aload_n 3, 1) := by decide +kernel
theorem dX2_take_8 : decode cX2_take 8 = .ok (.iconst 1, 1) := by decide +kernel
theorem dX2_take_9 : decode cX2_take 9 = .ok (.invokestatic 66, 3) := by decide +kernel
theorem dX2_take_12 : decode cX2_take 12 = .ok (.istore 5, 2) := by decide +kernel
theorem dX2_take_14 : decode cX2_take 14 = .ok (.aload_n 3, 1) := by decide +kernel
theorem dX2_take_15 : decode cX2_take 15 = .ok (.iconst 2, 1) := by decide +kernel
theorem dX2_take_16 : decode cX2_take 16 = .ok (.invokestatic 66, 3) := by decide +kernel
theorem dX2_take_19 : decode cX2_take 19 = .ok (.istore 6, 2) := by decide +kernel
theorem dX2_take_21 : decode cX2_take 21 = .ok (.iload_n 1, 1) := by decide +kernel
theorem dX2_take_22 : decode cX2_take 22 = .ok (.tableswitch 270 100 119 #[114, 270, 270, 162, 270, 270, 270, 270, 138, 270, 270, 228, 186, 270, 94, 270, 270, 248, 270, 208], 94) := by decide +kernel
theorem dX2_take_116 : decode cX2_take 116 = .ok (.iload_n 2, 1) := by decide +kernel
theorem dX2_take_117 : decode cX2_take 117 = .ok (.iconst 1, 1) := by decide +kernel
theorem dX2_take_118 : decode cX2_take 118 = .ok (.if_icmp .ne 16, 3) := by decide +kernel
theorem dX2_take_121 : decode cX2_take 121 = .ok (.aload_n 0, 1) := by decide +kernel
theorem dX2_take_122 : decode cX2_take 122 = .ok (.iload 4, 2) := by decide +kernel
theorem dX2_take_124 : decode cX2_take 124 = .ok (.invokevirtual 70, 3) := by decide +kernel
theorem dX2_take_127 : decode cX2_take 127 = .ok (.ifCond .eq 7, 3) := by decide +kernel
theorem dX2_take_130 : decode cX2_take 130 = .ok (.iconst 1, 1) := by decide +kernel
theorem dX2_take_131 : decode cX2_take 131 = .ok (.goto 4, 3) := by decide +kernel
theorem dX2_take_134 : decode cX2_take 134 = .ok (.iconst 0, 1) := by decide +kernel
theorem dX2_take_135 : decode cX2_take 135 = .ok (.ireturn, 1) := by decide +kernel
theorem dX2_take_136 : decode cX2_take 136 = .ok (.iload_n 2, 1) := by decide +kernel
theorem dX2_take_137 : decode cX2_take 137 = .ok (.iconst 3, 1) := by decide +kernel
theorem dX2_take_138 : decode cX2_take 138 = .ok (.if_icmp .ne 20, 3) := by decide +kernel
theorem dX2_take_141 : decode cX2_take 141 = .ok (.aload_n 0, 1) := by decide +kernel
theorem dX2_take_142 : decode cX2_take 142 = .ok (.iload 4, 2) := by decide +kernel
theorem dX2_take_144 : decode cX2_take 144 = .ok (.iload 5, 2) := by decide +kernel
theorem dX2_take_146 : decode cX2_take 146 = .ok (.iload 6, 2) := by decide +kernel
theorem dX2_take_148 : decode cX2_take 148 = .ok (.invokevirtual 74, 3) := by decide +kernel
theorem dX2_take_151 : decode cX2_take 151 = .ok (.ifCond .eq 7, 3) := by decide +kernel
theorem dX2_take_154 : decode cX2_take 154 = .ok (.iconst 1, 1) := by decide +kernel
theorem dX2_take_155 : decode cX2_take 155 = .ok (.goto 4, 3) := by decide +kernel
theorem dX2_take_158 : decode cX2_take 158 = .ok (.iconst 0, 1) := by decide +kernel
theorem dX2_take_159 : decode cX2_take 159 = .ok (.ireturn, 1) := by decide +kernel
theorem dX2_take_160 : decode cX2_take 160 = .ok (.iload_n 2, 1) := by decide +kernel
theorem dX2_take_161 : decode cX2_take 161 = .ok (.iconst 3, 1) := by decide +kernel
theorem dX2_take_162 : decode cX2_take 162 = .ok (.if_icmp .ne 20, 3) := by decide +kernel
theorem dX2_take_165 : decode cX2_take 165 = .ok (.aload_n 0, 1) := by decide +kernel
theorem dX2_take_166 : decode cX2_take 166 = .ok (.iload 4, 2) := by decide +kernel
theorem dX2_take_168 : decode cX2_take 168 = .ok (.iload 5, 2) := by decide +kernel
theorem dX2_take_170 : decode cX2_take 170 = .ok (.iload 6, 2) := by decide +kernel
theorem dX2_take_172 : decode cX2_take 172 = .ok (.invokevirtual 78, 3) := by decide +kernel
theorem dX2_take_175 : decode cX2_take 175 = .ok (.ifCond .eq 7, 3) := by decide +kernel
theorem dX2_take_178 : decode cX2_take 178 = .ok (.iconst 1, 1) := by decide +kernel
theorem dX2_take_179 : decode cX2_take 179 = .ok (.goto 4, 3) := by decide +kernel
theorem dX2_take_182 : decode cX2_take 182 = .ok (.iconst 0, 1) := by decide +kernel
theorem dX2_take_183 : decode cX2_take 183 = .ok (.ireturn, 1) := by decide +kernel
theorem dX2_take_184 : decode cX2_take 184 = .ok (.iload_n 2, 1) := by decide +kernel
theorem dX2_take_185 : decode cX2_take 185 = .ok (.iconst 3, 1) := by decide +kernel
theorem dX2_take_186 : decode cX2_take 186 = .ok (.if_icmp .ne 20, 3) := by decide +kernel
theorem dX2_take_189 : decode cX2_take 189 = .ok (.aload_n 0, 1) := by decide +kernel
theorem dX2_take_190 : decode cX2_take 190 = .ok (.iload 4, 2) := by decide +kernel
theorem dX2_take_192 : decode cX2_take 192 = .ok (.iload 5, 2) := by decide +kernel
theorem dX2_take_194 : decode cX2_take 194 = .ok (.iload 6, 2) := by decide +kernel
theorem dX2_take_196 : decode cX2_take 196 = .ok (.invokevirtual 81, 3) := by decide +kernel
theorem dX2_take_199 : decode cX2_take 199 = .ok (.ifCond .eq 7, 3) := by decide +kernel
theorem dX2_take_202 : decode cX2_take 202 = .ok (.iconst 1, 1) := by decide +kernel
theorem dX2_take_203 : decode cX2_take 203 = .ok (.goto 4, 3) := by decide +kernel
theorem dX2_take_206 : decode cX2_take 206 = .ok (.iconst 0, 1) := by decide +kernel
theorem dX2_take_207 : decode cX2_take 207 = .ok (.ireturn, 1) := by decide +kernel
theorem dX2_take_208 : decode cX2_take 208 = .ok (.iload_n 2, 1) := by decide +kernel
theorem dX2_take_209 : decode cX2_take 209 = .ok (.iconst 2, 1) := by decide +kernel
theorem dX2_take_210 : decode cX2_take 210 = .ok (.if_icmp .ne 18, 3) := by decide +kernel
theorem dX2_take_213 : decode cX2_take 213 = .ok (.aload_n 0, 1) := by decide +kernel
theorem dX2_take_214 : decode cX2_take 214 = .ok (.iload 4, 2) := by decide +kernel
theorem dX2_take_216 : decode cX2_take 216 = .ok (.iload 5, 2) := by decide +kernel
theorem dX2_take_218 : decode cX2_take 218 = .ok (.invokevirtual 84, 3) := by decide +kernel
theorem dX2_take_221 : decode cX2_take 221 = .ok (.ifCond .eq 7, 3) := by decide +kernel
theorem dX2_take_224 : decode cX2_take 224 = .ok (.iconst 1, 1) := by decide +kernel
theorem dX2_take_225 : decode cX2_take 225 = .ok (.goto 4, 3) := by decide +kernel
theorem dX2_take_228 : decode cX2_take 228 = .ok (.iconst 0, 1) := by decide +kernel
theorem dX2_take_229 : decode cX2_take 229 = .ok (.ireturn, 1) := by decide +kernel
theorem dX2_take_230 : decode cX2_take 230 = .ok (.iload_n 2, 1) := by decide +kernel
theorem dX2_take_231 : decode cX2_take 231 = .ok (.iconst 1, 1) := by decide +kernel
theorem dX2_take_232 : decode cX2_take 232 = .ok (.if_icmp .ne 16, 3) := by decide +kernel
theorem dX2_take_235 : decode cX2_take 235 = .ok (.aload_n 0, 1) := by decide +kernel
theorem dX2_take_236 : decode cX2_take 236 = .ok (.iload 4, 2) := by decide +kernel
theorem dX2_take_238 : decode cX2_take 238 = .ok (.invokevirtual 88, 3) := by decide +kernel
theorem dX2_take_241 : decode cX2_take 241 = .ok (.ifCond .eq 7, 3) := by decide +kernel
theorem dX2_take_244 : decode cX2_take 244 = .ok (.iconst 1, 1) := by decide +kernel
theorem dX2_take_245 : decode cX2_take 245 = .ok (.goto 4, 3) := by decide +kernel
theorem dX2_take_248 : decode cX2_take 248 = .ok (.iconst 0, 1) := by decide +kernel
theorem dX2_take_249 : decode cX2_take 249 = .ok (.ireturn, 1) := by decide +kernel
theorem dX2_take_250 : decode cX2_take 250 = .ok (.iload_n 2, 1) := by decide +kernel
theorem dX2_take_251 : decode cX2_take 251 = .ok (.iconst 1, 1) := by decide +kernel
theorem dX2_take_252 : decode cX2_take 252 = .ok (.if_icmp .ne 16, 3) := by decide +kernel
theorem dX2_take_255 : decode cX2_take 255 = .ok (.aload_n 0, 1) := by decide +kernel
theorem dX2_take_256 : decode cX2_take 256 = .ok (.iload 4, 2) := by decide +kernel
theorem dX2_take_258 : decode cX2_take 258 = .ok (.invokevirtual 91, 3) := by decide +kernel
theorem dX2_take_261 : decode cX2_take 261 = .ok (.ifCond .eq 7, 3) := by decide +kernel
theorem dX2_take_264 : decode cX2_take 264 = .ok (.iconst 1, 1) := by decide +kernel
theorem dX2_take_265 : decode cX2_take 265 = .ok (.goto 4, 3) := by decide +kernel
theorem dX2_take_268 : decode cX2_take 268 = .ok (.iconst 0, 1) := by decide +kernel
theorem dX2_take_269 : decode cX2_take 269 = .ok (.ireturn, 1) := by decide +kernel
theorem dX2_take_270 : decode cX2_take 270 = .ok (.iload_n 2, 1) := by decide +kernel
theorem dX2_take_271 : decode cX2_take 271 = .ok (.iconst 2, 1) := by decide +kernel
theorem dX2_take_272 : decode cX2_take 272 = .ok (.if_icmp .ne 18, 3) := by decide +kernel
theorem dX2_take_275 : decode cX2_take 275 = .ok (.aload_n 0, 1) := by decide +kernel
theorem dX2_take_276 : decode cX2_take 276 = .ok (.iload 4, 2) := by decide +kernel
theorem dX2_take_278 : decode cX2_take 278 = .ok (.iload 5, 2) := by decide +kernel
theorem dX2_take_280 : decode cX2_take 280 = .ok (.invokevirtual 94, 3) := by decide +kernel
theorem dX2_take_283 : decode cX2_take 283 = .ok (.ifCond .eq 7, 3) := by decide +kernel
theorem dX2_take_286 : decode cX2_take 286 = .ok (.iconst 1, 1) := by decide +kernel
theorem dX2_take_287 : decode cX2_take 287 = .ok (.goto 4, 3) := by decide +kernel
theorem dX2_take_290 : decode cX2_take 290 = .ok (.iconst 0, 1) := by decide +kernel
theorem dX2_take_291 : decode cX2_take 291 = .ok (.ireturn, 1) := by decide +kernel
theorem dX2_take_292 : decode cX2_take 292 = .ok (.iconst 0, 1) := by decide +kernel
theorem dX2_take_293 : decode cX2_take 293 = .ok (.ireturn, 1) := by decide +kernel
set_option maxRecDepth 20000 in
theorem ggX2_takeRooms_X6_within : GoodIn wsX2_takeRooms wsX6_within := goodIn_r _ [5] (by decide +kernel) (by decide +kernel)
set_option maxRecDepth 20000 in
theorem gX2_takeRooms_X6_within_n97 : GoodIn wsX2_takeRooms (wsX6_within) := ggX2_takeRooms_X6_within
theorem dX2_takeRooms_0 : decode cX2_takeRooms 0 = .ok (.aload_n 0, 1) := by decide +kernel
theorem dX2_takeRooms_1 : decode cX2_takeRooms 1 = .ok (.getfield 56, 3) := by decide +kernel
theorem dX2_takeRooms_4 : decode cX2_takeRooms 4 = .ok (.ifCond .gt 13, 3) := by decide +kernel
theorem dX2_takeRooms_7 : decode cX2_takeRooms 7 = .ok (.iload_n 1, 1) := by decide +kernel
theorem dX2_takeRooms_8 : decode cX2_takeRooms 8 = .ok (.iconst 2, 1) := by decide +kernel
theorem dX2_takeRooms_9 : decode cX2_takeRooms 9 = .ok (.bipush 6, 2) := by decide +kernel
theorem dX2_takeRooms_11 : decode cX2_takeRooms 11 = .ok (.invokestatic 97, 3) := by decide +kernel
theorem dX2_takeRooms_14 : decode cX2_takeRooms 14 = .ok (.ifCond .ne 5, 3) := by decide +kernel
theorem dX2_takeRooms_17 : decode cX2_takeRooms 17 = .ok (.iconst 0, 1) := by decide +kernel
theorem dX2_takeRooms_18 : decode cX2_takeRooms 18 = .ok (.ireturn, 1) := by decide +kernel
theorem dX2_takeRooms_19 : decode cX2_takeRooms 19 = .ok (.aload_n 0, 1) := by decide +kernel
theorem dX2_takeRooms_20 : decode cX2_takeRooms 20 = .ok (.iload_n 1, 1) := by decide +kernel
theorem dX2_takeRooms_21 : decode cX2_takeRooms 21 = .ok (.putfield 36, 3) := by decide +kernel
theorem dX2_takeRooms_24 : decode cX2_takeRooms 24 = .ok (.iconst 1, 1) := by decide +kernel
theorem dX2_takeRooms_25 : decode cX2_takeRooms 25 = .ok (.ireturn, 1) := by decide +kernel
set_option maxRecDepth 20000 in
theorem ggX2_takeDoor_X2_addDoor : GoodIn wsX2_takeDoor wsX2_addDoor := goodIn_r _ [7, 8, 2, 9, 10, 11, 12, 13, 14, 15, 16, 17, 18, 19, 20, 21, 22, 23, 24, 25, 26, 27, 28] (by decide +kernel) (by decide +kernel)
set_option maxRecDepth 20000 in
theorem gX2_takeDoor_X2_addDoor : GoodIn wsX2_takeDoor (wsV RX2 100 RX2 yX2_addDoor wsX2_addDoor) := goodIn_app (goodIn_of _ (by decide +kernel)) ggX2_takeDoor_X2_addDoor
theorem dX2_takeDoor_0 : decode cX2_takeDoor 0 = .ok (.iload_n 1, 1) := by decide +kernel
theorem dX2_takeDoor_1 : decode cX2_takeDoor 1 = .ok (.iload_n 2, 1) := by decide +kernel
theorem dX2_takeDoor_2 : decode cX2_takeDoor 2 = .ok (.if_icmp .eq 29, 3) := by decide +kernel
theorem dX2_takeDoor_5 : decode cX2_takeDoor 5 = .ok (.iload_n 1, 1) := by decide +kernel
theorem dX2_takeDoor_6 : decode cX2_takeDoor 6 = .ok (.aload_n 0, 1) := by decide +kernel
theorem dX2_takeDoor_7 : decode cX2_takeDoor 7 = .ok (.getfield 36, 3) := by decide +kernel
theorem dX2_takeDoor_10 : decode cX2_takeDoor 10 = .ok (.if_icmp .ge 21, 3) := by decide +kernel
theorem dX2_takeDoor_13 : decode cX2_takeDoor 13 = .ok (.iload_n 2, 1) := by decide +kernel
theorem dX2_takeDoor_14 : decode cX2_takeDoor 14 = .ok (.aload_n 0, 1) := by decide +kernel
theorem dX2_takeDoor_15 : decode cX2_takeDoor 15 = .ok (.getfield 36, 3) := by decide +kernel
theorem dX2_takeDoor_18 : decode cX2_takeDoor 18 = .ok (.if_icmp .ge 13, 3) := by decide +kernel
theorem dX2_takeDoor_21 : decode cX2_takeDoor 21 = .ok (.iload_n 3, 1) := by decide +kernel
theorem dX2_takeDoor_22 : decode cX2_takeDoor 22 = .ok (.bipush 8, 2) := by decide +kernel
theorem dX2_takeDoor_24 : decode cX2_takeDoor 24 = .ok (.if_icmp .ge 7, 3) := by decide +kernel
theorem dX2_takeDoor_27 : decode cX2_takeDoor 27 = .ok (.iconst 1, 1) := by decide +kernel
theorem dX2_takeDoor_28 : decode cX2_takeDoor 28 = .ok (.goto 4, 3) := by decide +kernel
theorem dX2_takeDoor_31 : decode cX2_takeDoor 31 = .ok (.iconst 0, 1) := by decide +kernel
theorem dX2_takeDoor_32 : decode cX2_takeDoor 32 = .ok (.istore 4, 2) := by decide +kernel
theorem dX2_takeDoor_34 : decode cX2_takeDoor 34 = .ok (.aload_n 0, 1) := by decide +kernel
theorem dX2_takeDoor_35 : decode cX2_takeDoor 35 = .ok (.getfield 56, 3) := by decide +kernel
theorem dX2_takeDoor_38 : decode cX2_takeDoor 38 = .ok (.bipush 8, 2) := by decide +kernel
theorem dX2_takeDoor_40 : decode cX2_takeDoor 40 = .ok (.if_icmp .ge 8, 3) := by decide +kernel
theorem dX2_takeDoor_43 : decode cX2_takeDoor 43 = .ok (.iload 4, 2) := by decide +kernel
theorem dX2_takeDoor_45 : decode cX2_takeDoor 45 = .ok (.ifCond .ne 5, 3) := by decide +kernel
theorem dX2_takeDoor_48 : decode cX2_takeDoor 48 = .ok (.iconst 0, 1) := by decide +kernel
theorem dX2_takeDoor_49 : decode cX2_takeDoor 49 = .ok (.ireturn, 1) := by decide +kernel
theorem dX2_takeDoor_50 : decode cX2_takeDoor 50 = .ok (.aload_n 0, 1) := by decide +kernel
theorem dX2_takeDoor_51 : decode cX2_takeDoor 51 = .ok (.iload_n 1, 1) := by decide +kernel
theorem dX2_takeDoor_52 : decode cX2_takeDoor 52 = .ok (.iload_n 2, 1) := by decide +kernel
theorem dX2_takeDoor_53 : decode cX2_takeDoor 53 = .ok (.iload_n 3, 1) := by decide +kernel
theorem dX2_takeDoor_54 : decode cX2_takeDoor 54 = .ok (.invokevirtual 100, 3) := by decide +kernel
theorem dX2_takeDoor_57 : decode cX2_takeDoor 57 = .ok (.iconst 1, 1) := by decide +kernel
theorem dX2_takeDoor_58 : decode cX2_takeDoor 58 = .ok (.ireturn, 1) := by decide +kernel
set_option maxRecDepth 20000 in
theorem ggX2_takeLodger_X6_within : GoodIn wsX2_takeLodger wsX6_within := goodIn_r _ [4] (by decide +kernel) (by decide +kernel)
set_option maxRecDepth 20000 in
theorem gX2_takeLodger_X6_within_n97 : GoodIn wsX2_takeLodger (wsX6_within) := ggX2_takeLodger_X6_within
set_option maxRecDepth 20000 in
theorem ggX2_takeLodger_X2_addLodger : GoodIn wsX2_takeLodger wsX2_addLodger := goodIn_r _ [9, 10, 1, 11, 12, 13, 3, 14, 15, 16, 17, 18, 19, 20, 21, 22, 23, 24, 25, 26, 27, 28, 29] (by decide +kernel) (by decide +kernel)
set_option maxRecDepth 20000 in
theorem gX2_takeLodger_X2_addLodger : GoodIn wsX2_takeLodger (wsV RX2 104 RX2 yX2_addLodger wsX2_addLodger) := goodIn_app (goodIn_of _ (by decide +kernel)) ggX2_takeLodger_X2_addLodger
theorem dX2_takeLodger_0 : decode cX2_takeLodger 0 = .ok (.iload_n 1, 1) := by decide +kernel
theorem dX2_takeLodger_1 : decode cX2_takeLodger 1 = .ok (.bipush 6, 2) := by decide +kernel
theorem dX2_takeLodger_3 : decode cX2_takeLodger 3 = .ok (.if_icmp .ge 23, 3) := by decide +kernel
theorem dX2_takeLodger_6 : decode cX2_takeLodger 6 = .ok (.iload_n 2, 1) := by decide +kernel
theorem dX2_takeLodger_7 : decode cX2_takeLodger 7 = .ok (.iconst 1, 1) := by decide +kernel
theorem dX2_takeLodger_8 : decode cX2_takeLodger 8 = .ok (.bipush 20, 2) := by decide +kernel
theorem dX2_takeLodger_10 : decode cX2_takeLodger 10 = .ok (.invokestatic 97, 3) := by decide +kernel
theorem dX2_takeLodger_13 : decode cX2_takeLodger 13 = .ok (.ifCond .eq 13, 3) := by decide +kernel
theorem dX2_takeLodger_16 : decode cX2_takeLodger 16 = .ok (.iload_n 3, 1) := by decide +kernel
theorem dX2_takeLodger_17 : decode cX2_takeLodger 17 = .ok (.bipush 6, 2) := by decide +kernel
theorem dX2_takeLodger_19 : decode cX2_takeLodger 19 = .ok (.if_icmp .ge 7, 3) := by decide +kernel
theorem dX2_takeLodger_22 : decode cX2_takeLodger 22 = .ok (.iconst 1, 1) := by decide +kernel
theorem dX2_takeLodger_23 : decode cX2_takeLodger 23 = .ok (.goto 4, 3) := by decide +kernel
theorem dX2_takeLodger_26 : decode cX2_takeLodger 26 = .ok (.iconst 0, 1) := by decide +kernel
theorem dX2_takeLodger_27 : decode cX2_takeLodger 27 = .ok (.istore 4, 2) := by decide +kernel
theorem dX2_takeLodger_29 : decode cX2_takeLodger 29 = .ok (.aload_n 0, 1) := by decide +kernel
theorem dX2_takeLodger_30 : decode cX2_takeLodger 30 = .ok (.getfield 59, 3) := by decide +kernel
theorem dX2_takeLodger_33 : decode cX2_takeLodger 33 = .ok (.iconst 4, 1) := by decide +kernel
theorem dX2_takeLodger_34 : decode cX2_takeLodger 34 = .ok (.if_icmp .ge 8, 3) := by decide +kernel
theorem dX2_takeLodger_37 : decode cX2_takeLodger 37 = .ok (.iload 4, 2) := by decide +kernel
theorem dX2_takeLodger_39 : decode cX2_takeLodger 39 = .ok (.ifCond .ne 5, 3) := by decide +kernel
theorem dX2_takeLodger_42 : decode cX2_takeLodger 42 = .ok (.iconst 0, 1) := by decide +kernel
theorem dX2_takeLodger_43 : decode cX2_takeLodger 43 = .ok (.ireturn, 1) := by decide +kernel
theorem dX2_takeLodger_44 : decode cX2_takeLodger 44 = .ok (.aload_n 0, 1) := by decide +kernel
theorem dX2_takeLodger_45 : decode cX2_takeLodger 45 = .ok (.iload_n 1, 1) := by decide +kernel
theorem dX2_takeLodger_46 : decode cX2_takeLodger 46 = .ok (.iload_n 2, 1) := by decide +kernel
theorem dX2_takeLodger_47 : decode cX2_takeLodger 47 = .ok (.iload_n 3, 1) := by decide +kernel
theorem dX2_takeLodger_48 : decode cX2_takeLodger 48 = .ok (.invokevirtual 104, 3) := by decide +kernel
theorem dX2_takeLodger_51 : decode cX2_takeLodger 51 = .ok (.iconst 1, 1) := by decide +kernel
theorem dX2_takeLodger_52 : decode cX2_takeLodger 52 = .ok (.ireturn, 1) := by decide +kernel
set_option maxRecDepth 20000 in
theorem ggX2_takeGrudge_X6_put : GoodIn wsX2_takeGrudge wsX6_put := goodIn_r _ [6] (by decide +kernel) (by decide +kernel)
set_option maxRecDepth 20000 in
theorem gX2_takeGrudge_X6_put_n62 : GoodIn wsX2_takeGrudge (wsX6_put) := ggX2_takeGrudge_X6_put
theorem dX2_takeGrudge_0 : decode cX2_takeGrudge 0 = .ok (.iload_n 1, 1) := by decide +kernel
theorem dX2_takeGrudge_1 : decode cX2_takeGrudge 1 = .ok (.aload_n 0, 1) := by decide +kernel
theorem dX2_takeGrudge_2 : decode cX2_takeGrudge 2 = .ok (.getfield 56, 3) := by decide +kernel
theorem dX2_takeGrudge_5 : decode cX2_takeGrudge 5 = .ok (.if_icmp .ge 11, 3) := by decide +kernel
theorem dX2_takeGrudge_8 : decode cX2_takeGrudge 8 = .ok (.iload_n 2, 1) := by decide +kernel
theorem dX2_takeGrudge_9 : decode cX2_takeGrudge 9 = .ok (.aload_n 0, 1) := by decide +kernel
theorem dX2_takeGrudge_10 : decode cX2_takeGrudge 10 = .ok (.getfield 59, 3) := by decide +kernel
theorem dX2_takeGrudge_13 : decode cX2_takeGrudge 13 = .ok (.if_icmp .lt 5, 3) := by decide +kernel
theorem dX2_takeGrudge_16 : decode cX2_takeGrudge 16 = .ok (.iconst 0, 1) := by decide +kernel
theorem dX2_takeGrudge_17 : decode cX2_takeGrudge 17 = .ok (.ireturn, 1) := by decide +kernel
theorem dX2_takeGrudge_18 : decode cX2_takeGrudge 18 = .ok (.aload_n 0, 1) := by decide +kernel
theorem dX2_takeGrudge_19 : decode cX2_takeGrudge 19 = .ok (.getfield 33, 3) := by decide +kernel
theorem dX2_takeGrudge_22 : decode cX2_takeGrudge 22 = .ok (.iload_n 2, 1) := by decide +kernel
theorem dX2_takeGrudge_23 : decode cX2_takeGrudge 23 = .ok (.bipush 8, 2) := by decide +kernel
theorem dX2_takeGrudge_25 : decode cX2_takeGrudge 25 = .ok (.imul, 1) := by decide +kernel
theorem dX2_takeGrudge_26 : decode cX2_takeGrudge 26 = .ok (.iload_n 1, 1) := by decide +kernel
theorem dX2_takeGrudge_27 : decode cX2_takeGrudge 27 = .ok (.iadd, 1) := by decide +kernel
theorem dX2_takeGrudge_28 : decode cX2_takeGrudge 28 = .ok (.iload_n 3, 1) := by decide +kernel
theorem dX2_takeGrudge_29 : decode cX2_takeGrudge 29 = .ok (.invokestatic 62, 3) := by decide +kernel
theorem dX2_takeGrudge_32 : decode cX2_takeGrudge 32 = .ok (.iconst 1, 1) := by decide +kernel
theorem dX2_takeGrudge_33 : decode cX2_takeGrudge 33 = .ok (.ireturn, 1) := by decide +kernel
theorem dX2_takePassing_0 : decode cX2_takePassing 0 = .ok (.iload_n 1, 1) := by decide +kernel
theorem dX2_takePassing_1 : decode cX2_takePassing 1 = .ok (.bipush 10, 2) := by decide +kernel
theorem dX2_takePassing_3 : decode cX2_takePassing 3 = .ok (.if_icmp .gt 9, 3) := by decide +kernel
theorem dX2_takePassing_6 : decode cX2_takePassing 6 = .ok (.iload_n 2, 1) := by decide +kernel
theorem dX2_takePassing_7 : decode cX2_takePassing 7 = .ok (.bipush 9, 2) := by decide +kernel
theorem dX2_takePassing_9 : decode cX2_takePassing 9 = .ok (.if_icmp .le 5, 3) := by decide +kernel
theorem dX2_takePassing_12 : decode cX2_takePassing 12 = .ok (.iconst 0, 1) := by decide +kernel
theorem dX2_takePassing_13 : decode cX2_takePassing 13 = .ok (.ireturn, 1) := by decide +kernel
theorem dX2_takePassing_14 : decode cX2_takePassing 14 = .ok (.aload_n 0, 1) := by decide +kernel
theorem dX2_takePassing_15 : decode cX2_takePassing 15 = .ok (.iload_n 1, 1) := by decide +kernel
theorem dX2_takePassing_16 : decode cX2_takePassing 16 = .ok (.putfield 40, 3) := by decide +kernel
theorem dX2_takePassing_19 : decode cX2_takePassing 19 = .ok (.aload_n 0, 1) := by decide +kernel
theorem dX2_takePassing_20 : decode cX2_takePassing 20 = .ok (.iload_n 2, 1) := by decide +kernel
theorem dX2_takePassing_21 : decode cX2_takePassing 21 = .ok (.putfield 43, 3) := by decide +kernel
theorem dX2_takePassing_24 : decode cX2_takePassing 24 = .ok (.iconst 1, 1) := by decide +kernel
theorem dX2_takePassing_25 : decode cX2_takePassing 25 = .ok (.ireturn, 1) := by decide +kernel
theorem dX2_takeWear_0 : decode cX2_takeWear 0 = .ok (.iload_n 1, 1) := by decide +kernel
theorem dX2_takeWear_1 : decode cX2_takeWear 1 = .ok (.bipush 9, 2) := by decide +kernel
theorem dX2_takeWear_3 : decode cX2_takeWear 3 = .ok (.if_icmp .le 5, 3) := by decide +kernel
theorem dX2_takeWear_6 : decode cX2_takeWear 6 = .ok (.iconst 0, 1) := by decide +kernel
theorem dX2_takeWear_7 : decode cX2_takeWear 7 = .ok (.ireturn, 1) := by decide +kernel
theorem dX2_takeWear_8 : decode cX2_takeWear 8 = .ok (.aload_n 0, 1) := by decide +kernel
theorem dX2_takeWear_9 : decode cX2_takeWear 9 = .ok (.iload_n 1, 1) := by decide +kernel
theorem dX2_takeWear_10 : decode cX2_takeWear 10 = .ok (.putfield 46, 3) := by decide +kernel
theorem dX2_takeWear_13 : decode cX2_takeWear 13 = .ok (.iconst 1, 1) := by decide +kernel
theorem dX2_takeWear_14 : decode cX2_takeWear 14 = .ok (.ireturn, 1) := by decide +kernel
set_option maxRecDepth 20000 in
theorem ggX2_takeOil_X6_within : GoodIn wsX2_takeOil wsX6_within := goodIn_r _ [4] (by decide +kernel) (by decide +kernel)
set_option maxRecDepth 20000 in
theorem gX2_takeOil_X6_within_n97 : GoodIn wsX2_takeOil (wsX6_within) := ggX2_takeOil_X6_within
theorem dX2_takeOil_0 : decode cX2_takeOil 0 = .ok (.iload_n 1, 1) := by decide +kernel
theorem dX2_takeOil_1 : decode cX2_takeOil 1 = .ok (.iconst 1, 1) := by decide +kernel
theorem dX2_takeOil_2 : decode cX2_takeOil 2 = .ok (.bipush 9, 2) := by decide +kernel
theorem dX2_takeOil_4 : decode cX2_takeOil 4 = .ok (.invokestatic 97, 3) := by decide +kernel
theorem dX2_takeOil_7 : decode cX2_takeOil 7 = .ok (.ifCond .ne 5, 3) := by decide +kernel
theorem dX2_takeOil_10 : decode cX2_takeOil 10 = .ok (.iconst 0, 1) := by decide +kernel
theorem dX2_takeOil_11 : decode cX2_takeOil 11 = .ok (.ireturn, 1) := by decide +kernel
theorem dX2_takeOil_12 : decode cX2_takeOil 12 = .ok (.aload_n 0, 1) := by decide +kernel
theorem dX2_takeOil_13 : decode cX2_takeOil 13 = .ok (.iload_n 1, 1) := by decide +kernel
theorem dX2_takeOil_14 : decode cX2_takeOil 14 = .ok (.putfield 49, 3) := by decide +kernel
theorem dX2_takeOil_17 : decode cX2_takeOil 17 = .ok (.iconst 1, 1) := by decide +kernel
theorem dX2_takeOil_18 : decode cX2_takeOil 18 = .ok (.ireturn, 1) := by decide +kernel
set_option maxRecDepth 20000 in
theorem ggX2_takeDraught_X6_put : GoodIn wsX2_takeDraught wsX6_put := goodIn_r _ [5] (by decide +kernel) (by decide +kernel)
set_option maxRecDepth 20000 in
theorem gX2_takeDraught_X6_put_n62 : GoodIn wsX2_takeDraught (wsX6_put) := ggX2_takeDraught_X6_put
theorem dX2_takeDraught_0 : decode cX2_takeDraught 0 = .ok (.iload_n 1, 1) := by decide +kernel
theorem dX2_takeDraught_1 : decode cX2_takeDraught 1 = .ok (.aload_n 0, 1) := by decide +kernel
theorem dX2_takeDraught_2 : decode cX2_takeDraught 2 = .ok (.getfield 56, 3) := by decide +kernel
theorem dX2_takeDraught_5 : decode cX2_takeDraught 5 = .ok (.if_icmp .ge 9, 3) := by decide +kernel
theorem dX2_takeDraught_8 : decode cX2_takeDraught 8 = .ok (.iload_n 2, 1) := by decide +kernel
theorem dX2_takeDraught_9 : decode cX2_takeDraught 9 = .ok (.bipush 20, 2) := by decide +kernel
theorem dX2_takeDraught_11 : decode cX2_takeDraught 11 = .ok (.if_icmp .le 5, 3) := by decide +kernel
theorem dX2_takeDraught_14 : decode cX2_takeDraught 14 = .ok (.iconst 0, 1) := by decide +kernel
theorem dX2_takeDraught_15 : decode cX2_takeDraught 15 = .ok (.ireturn, 1) := by decide +kernel
theorem dX2_takeDraught_16 : decode cX2_takeDraught 16 = .ok (.aload_n 0, 1) := by decide +kernel
theorem dX2_takeDraught_17 : decode cX2_takeDraught 17 = .ok (.getfield 21, 3) := by decide +kernel
theorem dX2_takeDraught_20 : decode cX2_takeDraught 20 = .ok (.iload_n 1, 1) := by decide +kernel
theorem dX2_takeDraught_21 : decode cX2_takeDraught 21 = .ok (.iload_n 2, 1) := by decide +kernel
theorem dX2_takeDraught_22 : decode cX2_takeDraught 22 = .ok (.invokestatic 62, 3) := by decide +kernel
theorem dX2_takeDraught_25 : decode cX2_takeDraught 25 = .ok (.iconst 1, 1) := by decide +kernel
theorem dX2_takeDraught_26 : decode cX2_takeDraught 26 = .ok (.ireturn, 1) := by decide +kernel
set_option maxRecDepth 20000 in
theorem ggX2_canStand_X6_at : GoodIn wsX2_canStand wsX6_at := goodIn_r _ [9] (by decide +kernel) (by decide +kernel)
set_option maxRecDepth 20000 in
theorem gX2_canStand_X6_at_n66 : GoodIn wsX2_canStand (wsX6_at) := ggX2_canStand_X6_at
theorem dX2_canStand_0 : decode cX2_canStand 0 = .ok (.iconst 0, 1) := by decide +kernel
theorem dX2_canStand_1 : decode cX2_canStand 1 = .ok (.istore_n 1, 1) := by decide +kernel
theorem dX2_canStand_2 : decode cX2_canStand 2 = .ok (.iload_n 1, 1) := by decide +kernel
theorem dX2_canStand_3 : decode cX2_canStand 3 = .ok (.aload_n 0, 1) := by decide +kernel
theorem dX2_canStand_4 : decode cX2_canStand 4 = .ok (.getfield 56, 3) := by decide +kernel
theorem dX2_canStand_7 : decode cX2_canStand 7 = .ok (.if_icmp .ge 26, 3) := by decide +kernel
theorem dX2_canStand_10 : decode cX2_canStand 10 = .ok (.aload_n 0, 1) := by decide +kernel
theorem dX2_canStand_11 : decode cX2_canStand 11 = .ok (.getfield 18, 3) := by decide +kernel
theorem dX2_canStand_14 : decode cX2_canStand 14 = .ok (.iload_n 1, 1) := by decide +kernel
theorem dX2_canStand_15 : decode cX2_canStand 15 = .ok (.invokestatic 66, 3) := by decide +kernel
theorem dX2_canStand_18 : decode cX2_canStand 18 = .ok (.aload_n 0, 1) := by decide +kernel
theorem dX2_canStand_19 : decode cX2_canStand 19 = .ok (.getfield 56, 3) := by decide +kernel
theorem dX2_canStand_22 : decode cX2_canStand 22 = .ok (.if_icmp .lt 5, 3) := by decide +kernel
theorem dX2_canStand_25 : decode cX2_canStand 25 = .ok (.iconst 0, 1) := by decide +kernel
theorem dX2_canStand_26 : decode cX2_canStand 26 = .ok (.ireturn, 1) := by decide +kernel
theorem dX2_canStand_27 : decode cX2_canStand 27 = .ok (.iinc 1 1, 3) := by decide +kernel
theorem dX2_canStand_30 : decode cX2_canStand 30 = .ok (.goto (-28), 3) := by decide +kernel
theorem dX2_canStand_33 : decode cX2_canStand 33 = .ok (.iconst 0, 1) := by decide +kernel
theorem dX2_canStand_34 : decode cX2_canStand 34 = .ok (.istore_n 1, 1) := by decide +kernel
theorem dX2_canStand_35 : decode cX2_canStand 35 = .ok (.iload_n 1, 1) := by decide +kernel
theorem dX2_canStand_36 : decode cX2_canStand 36 = .ok (.aload_n 0, 1) := by decide +kernel
theorem dX2_canStand_37 : decode cX2_canStand 37 = .ok (.getfield 59, 3) := by decide +kernel
theorem dX2_canStand_40 : decode cX2_canStand 40 = .ok (.if_icmp .ge 41, 3) := by decide +kernel
theorem dX2_canStand_43 : decode cX2_canStand 43 = .ok (.aload_n 0, 1) := by decide +kernel
theorem dX2_canStand_44 : decode cX2_canStand 44 = .ok (.getfield 24, 3) := by decide +kernel
theorem dX2_canStand_47 : decode cX2_canStand 47 = .ok (.iload_n 1, 1) := by decide +kernel
theorem dX2_canStand_48 : decode cX2_canStand 48 = .ok (.invokestatic 66, 3) := by decide +kernel
theorem dX2_canStand_51 : decode cX2_canStand 51 = .ok (.aload_n 0, 1) := by decide +kernel
theorem dX2_canStand_52 : decode cX2_canStand 52 = .ok (.getfield 36, 3) := by decide +kernel
theorem dX2_canStand_55 : decode cX2_canStand 55 = .ok (.if_icmp .ge 18, 3) := by decide +kernel
theorem dX2_canStand_58 : decode cX2_canStand 58 = .ok (.aload_n 0, 1) := by decide +kernel
theorem dX2_canStand_59 : decode cX2_canStand 59 = .ok (.getfield 30, 3) := by decide +kernel
theorem dX2_canStand_62 : decode cX2_canStand 62 = .ok (.iload_n 1, 1) := by decide +kernel
theorem dX2_canStand_63 : decode cX2_canStand 63 = .ok (.invokestatic 66, 3) := by decide +kernel
theorem dX2_canStand_66 : decode cX2_canStand 66 = .ok (.aload_n 0, 1) := by decide +kernel
theorem dX2_canStand_67 : decode cX2_canStand 67 = .ok (.getfield 36, 3) := by decide +kernel
theorem dX2_canStand_70 : decode cX2_canStand 70 = .ok (.if_icmp .lt 5, 3) := by decide +kernel
theorem dX2_canStand_73 : decode cX2_canStand 73 = .ok (.iconst 0, 1) := by decide +kernel
theorem dX2_canStand_74 : decode cX2_canStand 74 = .ok (.ireturn, 1) := by decide +kernel
theorem dX2_canStand_75 : decode cX2_canStand 75 = .ok (.iinc 1 1, 3) := by decide +kernel
theorem dX2_canStand_78 : decode cX2_canStand 78 = .ok (.goto (-43), 3) := by decide +kernel
theorem dX2_canStand_81 : decode cX2_canStand 81 = .ok (.aload_n 0, 1) := by decide +kernel
theorem dX2_canStand_82 : decode cX2_canStand 82 = .ok (.getfield 56, 3) := by decide +kernel
theorem dX2_canStand_85 : decode cX2_canStand 85 = .ok (.ifCond .le 14, 3) := by decide +kernel
theorem dX2_canStand_88 : decode cX2_canStand 88 = .ok (.aload_n 0, 1) := by decide +kernel
theorem dX2_canStand_89 : decode cX2_canStand 89 = .ok (.getfield 59, 3) := by decide +kernel
theorem dX2_canStand_92 : decode cX2_canStand 92 = .ok (.ifCond .le 7, 3) := by decide +kernel
theorem dX2_canStand_95 : decode cX2_canStand 95 = .ok (.iconst 1, 1) := by decide +kernel
theorem dX2_canStand_96 : decode cX2_canStand 96 = .ok (.goto 4, 3) := by decide +kernel
theorem dX2_canStand_99 : decode cX2_canStand 99 = .ok (.iconst 0, 1) := by decide +kernel
theorem dX2_canStand_100 : decode cX2_canStand 100 = .ok (.ireturn, 1) := by decide +kernel
set_option maxRecDepth 20000 in
theorem ggX2_otherSide_X6_at : GoodIn wsX2_otherSide wsX6_at := goodIn_r _ [5] (by decide +kernel) (by decide +kernel)
set_option maxRecDepth 20000 in
theorem gX2_otherSide_X6_at_n66 : GoodIn wsX2_otherSide (wsX6_at) := ggX2_otherSide_X6_at
theorem dX2_otherSide_0 : decode cX2_otherSide 0 = .ok (.aload_n 0, 1) := by decide +kernel
theorem dX2_otherSide_1 : decode cX2_otherSide 1 = .ok (.getfield 9, 3) := by decide +kernel
theorem dX2_otherSide_4 : decode cX2_otherSide 4 = .ok (.iload_n 1, 1) := by decide +kernel
theorem dX2_otherSide_5 : decode cX2_otherSide 5 = .ok (.invokestatic 66, 3) := by decide +kernel
theorem dX2_otherSide_8 : decode cX2_otherSide 8 = .ok (.iload_n 2, 1) := by decide +kernel
theorem dX2_otherSide_9 : decode cX2_otherSide 9 = .ok (.if_icmp .ne 12, 3) := by decide +kernel
theorem dX2_otherSide_12 : decode cX2_otherSide 12 = .ok (.aload_n 0, 1) := by decide +kernel
theorem dX2_otherSide_13 : decode cX2_otherSide 13 = .ok (.getfield 15, 3) := by decide +kernel
theorem dX2_otherSide_16 : decode cX2_otherSide 16 = .ok (.iload_n 1, 1) := by decide +kernel
theorem dX2_otherSide_17 : decode cX2_otherSide 17 = .ok (.invokestatic 66, 3) := by decide +kernel
theorem dX2_otherSide_20 : decode cX2_otherSide 20 = .ok (.ireturn, 1) := by decide +kernel
theorem dX2_otherSide_21 : decode cX2_otherSide 21 = .ok (.aload_n 0, 1) := by decide +kernel
theorem dX2_otherSide_22 : decode cX2_otherSide 22 = .ok (.getfield 15, 3) := by decide +kernel
theorem dX2_otherSide_25 : decode cX2_otherSide 25 = .ok (.iload_n 1, 1) := by decide +kernel
theorem dX2_otherSide_26 : decode cX2_otherSide 26 = .ok (.invokestatic 66, 3) := by decide +kernel
theorem dX2_otherSide_29 : decode cX2_otherSide 29 = .ok (.iload_n 2, 1) := by decide +kernel
theorem dX2_otherSide_30 : decode cX2_otherSide 30 = .ok (.if_icmp .ne 14, 3) := by decide +kernel
theorem dX2_otherSide_33 : decode cX2_otherSide 33 = .ok (.aload_n 0, 1) := by decide +kernel
theorem dX2_otherSide_34 : decode cX2_otherSide 34 = .ok (.getfield 9, 3) := by decide +kernel
theorem dX2_otherSide_37 : decode cX2_otherSide 37 = .ok (.iload_n 1, 1) := by decide +kernel
theorem dX2_otherSide_38 : decode cX2_otherSide 38 = .ok (.invokestatic 66, 3) := by decide +kernel
theorem dX2_otherSide_41 : decode cX2_otherSide 41 = .ok (.goto 4, 3) := by decide +kernel
theorem dX2_otherSide_44 : decode cX2_otherSide 44 = .ok (.iconst (-1), 1) := by decide +kernel
theorem dX2_otherSide_45 : decode cX2_otherSide 45 = .ok (.ireturn, 1) := by decide +kernel
set_option maxRecDepth 20000 in
theorem ggX2_grudgeNext_X6_at : GoodIn wsX2_grudgeNext wsX6_at := goodIn_r _ [5] (by decide +kernel) (by decide +kernel)
set_option maxRecDepth 20000 in
theorem gX2_grudgeNext_X6_at_n66 : GoodIn wsX2_grudgeNext (wsX6_at) := ggX2_grudgeNext_X6_at
set_option maxRecDepth 20000 in
theorem ggX2_grudgeNext_X6_grown : GoodIn wsX2_grudgeNext wsX6_grown := goodIn_r _ [7, 8, 9, 10, 11] (by decide +kernel) (by decide +kernel)
set_option maxRecDepth 20000 in
theorem gX2_grudgeNext_X6_grown_n107 : GoodIn wsX2_grudgeNext (wsX6_grown) := ggX2_grudgeNext_X6_grown
set_option maxRecDepth 20000 in
theorem ggX2_grudgeNext_X6_worn : GoodIn wsX2_grudgeNext wsX6_worn := goodIn_r _ [13, 14, 15, 10, 16] (by decide +kernel) (by decide +kernel)
set_option maxRecDepth 20000 in
theorem gX2_grudgeNext_X6_worn_n111 : GoodIn wsX2_grudgeNext (wsX6_worn) := ggX2_grudgeNext_X6_worn
theorem dX2_grudgeNext_0 : decode cX2_grudgeNext 0 = .ok (.iload_n 3, 1) := by decide +kernel
theorem dX2_grudgeNext_1 : decode cX2_grudgeNext 1 = .ok (.ifCond .eq 18, 3) := by decide +kernel
theorem dX2_grudgeNext_4 : decode cX2_grudgeNext 4 = .ok (.iload_n 1, 1) := by decide +kernel
theorem dX2_grudgeNext_5 : decode cX2_grudgeNext 5 = .ok (.aload_n 0, 1) := by decide +kernel
theorem dX2_grudgeNext_6 : decode cX2_grudgeNext 6 = .ok (.getfield 27, 3) := by decide +kernel
theorem dX2_grudgeNext_9 : decode cX2_grudgeNext 9 = .ok (.iload_n 2, 1) := by decide +kernel
theorem dX2_grudgeNext_10 : decode cX2_grudgeNext 10 = .ok (.invokestatic 66, 3) := by decide +kernel
theorem dX2_grudgeNext_13 : decode cX2_grudgeNext 13 = .ok (.invokestatic 107, 3) := by decide +kernel
theorem dX2_grudgeNext_16 : decode cX2_grudgeNext 16 = .ok (.goto 11, 3) := by decide +kernel
theorem dX2_grudgeNext_19 : decode cX2_grudgeNext 19 = .ok (.iload_n 1, 1) := by decide +kernel
theorem dX2_grudgeNext_20 : decode cX2_grudgeNext 20 = .ok (.aload_n 0, 1) := by decide +kernel
theorem dX2_grudgeNext_21 : decode cX2_grudgeNext 21 = .ok (.getfield 46, 3) := by decide +kernel
theorem dX2_grudgeNext_24 : decode cX2_grudgeNext 24 = .ok (.invokestatic 111, 3) := by decide +kernel
theorem dX2_grudgeNext_27 : decode cX2_grudgeNext 27 = .ok (.ireturn, 1) := by decide +kernel
set_option maxRecDepth 20000 in
theorem ggX2_grudgeAfter_X6_at : GoodIn wsX2_grudgeAfter wsX6_at := goodIn_r _ [4] (by decide +kernel) (by decide +kernel)
set_option maxRecDepth 20000 in
theorem gX2_grudgeAfter_X6_at_n66 : GoodIn wsX2_grudgeAfter (wsX6_at) := ggX2_grudgeAfter_X6_at
set_option maxRecDepth 20000 in
theorem ggX2_grudgeAfter_X6_holds : GoodIn wsX2_grudgeAfter wsX6_holds := goodIn_r _ [6] (by decide +kernel) (by decide +kernel)
set_option maxRecDepth 20000 in
theorem gX2_grudgeAfter_X6_holds_n114 : GoodIn wsX2_grudgeAfter (wsX6_holds) := ggX2_grudgeAfter_X6_holds
set_option maxRecDepth 20000 in
theorem ggX2_grudgeAfter_X2_grudgeNext : GoodIn wsX2_grudgeAfter wsX2_grudgeNext := goodIn_r _ [11, 12, 13, 2, 3, 4, 14, 15, 16, 17, 18, 19, 20, 21, 22, 23, 24, 25, 26, 27, 28, 29, 30, 31, 32, 33, 34, 35, 36, 37, 38, 39] (by decide +kernel) (by decide +kernel)
set_option maxRecDepth 20000 in
theorem gX2_grudgeAfter_X2_grudgeNext : GoodIn wsX2_grudgeAfter (wsV RX2 117 RX2 yX2_grudgeNext wsX2_grudgeNext) := goodIn_app (goodIn_of _ (by decide +kernel)) ggX2_grudgeAfter_X2_grudgeNext
theorem dX2_grudgeAfter_0 : decode cX2_grudgeAfter 0 = .ok (.aload_n 0, 1) := by decide +kernel
theorem dX2_grudgeAfter_1 : decode cX2_grudgeAfter 1 = .ok (.getfield 33, 3) := by decide +kernel
theorem dX2_grudgeAfter_4 : decode cX2_grudgeAfter 4 = .ok (.iload_n 2, 1) := by decide +kernel
theorem dX2_grudgeAfter_5 : decode cX2_grudgeAfter 5 = .ok (.bipush 8, 2) := by decide +kernel
theorem dX2_grudgeAfter_7 : decode cX2_grudgeAfter 7 = .ok (.imul, 1) := by decide +kernel
theorem dX2_grudgeAfter_8 : decode cX2_grudgeAfter 8 = .ok (.iload_n 1, 1) := by decide +kernel
theorem dX2_grudgeAfter_9 : decode cX2_grudgeAfter 9 = .ok (.iadd, 1) := by decide +kernel
theorem dX2_grudgeAfter_10 : decode cX2_grudgeAfter 10 = .ok (.invokestatic 66, 3) := by decide +kernel
theorem dX2_grudgeAfter_13 : decode cX2_grudgeAfter 13 = .ok (.istore 5, 2) := by decide +kernel
theorem dX2_grudgeAfter_15 : decode cX2_grudgeAfter 15 = .ok (.iconst 0, 1) := by decide +kernel
theorem dX2_grudgeAfter_16 : decode cX2_grudgeAfter 16 = .ok (.istore 6, 2) := by decide +kernel
theorem dX2_grudgeAfter_18 : decode cX2_grudgeAfter 18 = .ok (.iload 6, 2) := by decide +kernel
theorem dX2_grudgeAfter_20 : decode cX2_grudgeAfter 20 = .ok (.iload_n 3, 1) := by decide +kernel
theorem dX2_grudgeAfter_21 : decode cX2_grudgeAfter 21 = .ok (.if_icmp .ge 25, 3) := by decide +kernel
theorem dX2_grudgeAfter_24 : decode cX2_grudgeAfter 24 = .ok (.aload_n 0, 1) := by decide +kernel
theorem dX2_grudgeAfter_25 : decode cX2_grudgeAfter 25 = .ok (.iload 5, 2) := by decide +kernel
theorem dX2_grudgeAfter_27 : decode cX2_grudgeAfter 27 = .ok (.iload_n 2, 1) := by decide +kernel
theorem dX2_grudgeAfter_28 : decode cX2_grudgeAfter 28 = .ok (.iload 4, 2) := by decide +kernel
theorem dX2_grudgeAfter_30 : decode cX2_grudgeAfter 30 = .ok (.iload 6, 2) := by decide +kernel
theorem dX2_grudgeAfter_32 : decode cX2_grudgeAfter 32 = .ok (.invokestatic 114, 3) := by decide +kernel
theorem dX2_grudgeAfter_35 : decode cX2_grudgeAfter 35 = .ok (.invokevirtual 117, 3) := by decide +kernel
theorem dX2_grudgeAfter_38 : decode cX2_grudgeAfter 38 = .ok (.istore 5, 2) := by decide +kernel
theorem dX2_grudgeAfter_40 : decode cX2_grudgeAfter 40 = .ok (.iinc 6 1, 3) := by decide +kernel
theorem dX2_grudgeAfter_43 : decode cX2_grudgeAfter 43 = .ok (.goto (-25), 3) := by decide +kernel
theorem dX2_grudgeAfter_46 : decode cX2_grudgeAfter 46 = .ok (.iload 5, 2) := by decide +kernel
theorem dX2_grudgeAfter_48 : decode cX2_grudgeAfter 48 = .ok (.ireturn, 1) := by decide +kernel
theorem dX3_init_0 : decode cX3_init 0 = .ok (.aload_n 0, 1) := by decide +kernel
theorem dX3_init_1 : decode cX3_init 1 = .ok (.invokespecial 3, 3) := by decide +kernel
theorem dX3_init_4 : decode cX3_init 4 = .ok (.aload_n 0, 1) := by decide +kernel
theorem dX3_init_5 : decode cX3_init 5 = .ok (.bipush 24, 2) := by decide +kernel
theorem dX3_init_7 : decode cX3_init 7 = .ok (.newarray .int, 2) := by decide +kernel
theorem dX3_init_9 : decode cX3_init 9 = .ok (.putfield 9, 3) := by decide +kernel
theorem dX3_init_12 : decode cX3_init 12 = .ok (.return_, 1) := by decide +kernel
set_option maxRecDepth 20000 in
theorem ggX3_measure_X6_at : GoodIn wsX3_measure wsX6_at := goodIn_r _ [6] (by decide +kernel) (by decide +kernel)
set_option maxRecDepth 20000 in
theorem gX3_measure_X6_at_n29 : GoodIn wsX3_measure (wsX6_at) := ggX3_measure_X6_at
set_option maxRecDepth 20000 in
theorem ggX3_measure_X5_measure : GoodIn wsX3_measure wsX5_measure := goodIn_r _ [11, 12, 13, 14, 15, 5, 16, 17, 18, 19, 20, 21, 22, 23, 24, 25, 26, 4, 6, 27, 28, 29, 30, 31, 32, 33, 34, 35, 36, 37, 38, 10, 39, 44, 45, 46, 47, 48, 49, 50, 51, 52, 53, 54, 55, 56, 57, 58, 62, 63, 64, 65, 66, 67, 68, 69] (by decide +kernel) (by decide +kernel)
set_option maxRecDepth 20000 in
theorem gX3_measure_X5_measure : GoodIn wsX3_measure (wsV RX3 33 RX5 yX5_measure wsX5_measure) := goodIn_app (goodIn_of _ (by decide +kernel)) ggX3_measure_X5_measure
set_option maxRecDepth 20000 in
theorem ggX3_measure_X5_minutesFrom : GoodIn wsX3_measure wsX5_minutesFrom := goodIn_r _ [43, 13, 14, 4, 5, 6, 62, 63] (by decide +kernel) (by decide +kernel)
set_option maxRecDepth 20000 in
theorem gX3_measure_X5_minutesFrom : GoodIn wsX3_measure (wsV RX3 39 RX5 yX5_minutesFrom wsX5_minutesFrom) := goodIn_app (goodIn_of _ (by decide +kernel)) ggX3_measure_X5_minutesFrom
set_option maxRecDepth 20000 in
theorem ggX3_measure_X6_put : GoodIn wsX3_measure wsX6_put := goodIn_r _ [33] (by decide +kernel) (by decide +kernel)
set_option maxRecDepth 20000 in
theorem gX3_measure_X6_put_n43 : GoodIn wsX3_measure (wsX6_put) := ggX3_measure_X6_put
theorem dX3_measure_0 : decode cX3_measure 0 = .ok (.aload_n 0, 1) := by decide +kernel
theorem dX3_measure_1 : decode cX3_measure 1 = .ok (.aload_n 1, 1) := by decide +kernel
theorem dX3_measure_2 : decode cX3_measure 2 = .ok (.getfield 15, 3) := by decide +kernel
theorem dX3_measure_5 : decode cX3_measure 5 = .ok (.putfield 21, 3) := by decide +kernel
theorem dX3_measure_8 : decode cX3_measure 8 = .ok (.aload_n 0, 1) := by decide +kernel
theorem dX3_measure_9 : decode cX3_measure 9 = .ok (.aload_n 1, 1) := by decide +kernel
theorem dX3_measure_10 : decode cX3_measure 10 = .ok (.getfield 22, 3) := by decide +kernel
theorem dX3_measure_13 : decode cX3_measure 13 = .ok (.putfield 25, 3) := by decide +kernel
theorem dX3_measure_16 : decode cX3_measure 16 = .ok (.iconst 0, 1) := by decide +kernel
theorem dX3_measure_17 : decode cX3_measure 17 = .ok (.istore 4, 2) := by decide +kernel
theorem dX3_measure_19 : decode cX3_measure 19 = .ok (.iload 4, 2) := by decide +kernel
theorem dX3_measure_21 : decode cX3_measure 21 = .ok (.aload_n 0, 1) := by decide +kernel
theorem dX3_measure_22 : decode cX3_measure 22 = .ok (.getfield 21, 3) := by decide +kernel
theorem dX3_measure_25 : decode cX3_measure 25 = .ok (.if_icmp .ge 66, 3) := by decide +kernel
theorem dX3_measure_28 : decode cX3_measure 28 = .ok (.aload_n 3, 1) := by decide +kernel
theorem dX3_measure_29 : decode cX3_measure 29 = .ok (.aload_n 1, 1) := by decide +kernel
theorem dX3_measure_30 : decode cX3_measure 30 = .ok (.aload_n 2, 1) := by decide +kernel
theorem dX3_measure_31 : decode cX3_measure 31 = .ok (.iload 4, 2) := by decide +kernel
theorem dX3_measure_33 : decode cX3_measure 33 = .ok (.aload_n 1, 1) := by decide +kernel
theorem dX3_measure_34 : decode cX3_measure 34 = .ok (.getfield 26, 3) := by decide +kernel
theorem dX3_measure_37 : decode cX3_measure 37 = .ok (.iload 4, 2) := by decide +kernel
theorem dX3_measure_39 : decode cX3_measure 39 = .ok (.invokestatic 29, 3) := by decide +kernel
theorem dX3_measure_42 : decode cX3_measure 42 = .ok (.iconst 0, 1) := by decide +kernel
theorem dX3_measure_43 : decode cX3_measure 43 = .ok (.invokevirtual 33, 3) := by decide +kernel
theorem dX3_measure_46 : decode cX3_measure 46 = .ok (.iconst 0, 1) := by decide +kernel
theorem dX3_measure_47 : decode cX3_measure 47 = .ok (.istore 5, 2) := by decide +kernel
theorem dX3_measure_49 : decode cX3_measure 49 = .ok (.iload 5, 2) := by decide +kernel
theorem dX3_measure_51 : decode cX3_measure 51 = .ok (.aload_n 0, 1) := by decide +kernel
theorem dX3_measure_52 : decode cX3_measure 52 = .ok (.getfield 25, 3) := by decide +kernel
theorem dX3_measure_55 : decode cX3_measure 55 = .ok (.if_icmp .ge 30, 3) := by decide +kernel
theorem dX3_measure_58 : decode cX3_measure 58 = .ok (.aload_n 0, 1) := by decide +kernel
theorem dX3_measure_59 : decode cX3_measure 59 = .ok (.getfield 9, 3) := by decide +kernel
theorem dX3_measure_62 : decode cX3_measure 62 = .ok (.iload 4, 2) := by decide +kernel
theorem dX3_measure_64 : decode cX3_measure 64 = .ok (.bipush 6, 2) := by decide +kernel
theorem dX3_measure_66 : decode cX3_measure 66 = .ok (.imul, 1) := by decide +kernel
theorem dX3_measure_67 : decode cX3_measure 67 = .ok (.iload 5, 2) := by decide +kernel
theorem dX3_measure_69 : decode cX3_measure 69 = .ok (.iadd, 1) := by decide +kernel
theorem dX3_measure_70 : decode cX3_measure 70 = .ok (.aload_n 3, 1) := by decide +kernel
theorem dX3_measure_71 : decode cX3_measure 71 = .ok (.iload 5, 2) := by decide +kernel
theorem dX3_measure_73 : decode cX3_measure 73 = .ok (.invokevirtual 39, 3) := by decide +kernel
theorem dX3_measure_76 : decode cX3_measure 76 = .ok (.invokestatic 43, 3) := by decide +kernel
theorem dX3_measure_79 : decode cX3_measure 79 = .ok (.iinc 5 1, 3) := by decide +kernel
theorem dX3_measure_82 : decode cX3_measure 82 = .ok (.goto (-33), 3) := by decide +kernel
theorem dX3_measure_85 : decode cX3_measure 85 = .ok (.iinc 4 1, 3) := by decide +kernel
theorem dX3_measure_88 : decode cX3_measure 88 = .ok (.goto (-69), 3) := by decide +kernel
theorem dX3_measure_91 : decode cX3_measure 91 = .ok (.return_, 1) := by decide +kernel
set_option maxRecDepth 20000 in
theorem ggX3_bestCode_X3_sumOf : GoodIn wsX3_bestCode wsX3_sumOf := goodIn_r _ [7, 1, 8, 9, 10, 11, 12, 13, 14, 15, 16, 17] (by decide +kernel) (by decide +kernel)
set_option maxRecDepth 20000 in
theorem gX3_bestCode_X3_sumOf : GoodIn wsX3_bestCode (wsV RX3 48 RX3 yX3_sumOf wsX3_sumOf) := goodIn_app (goodIn_of _ (by decide +kernel)) ggX3_bestCode_X3_sumOf
theorem dX3_bestCode_0 : decode cX3_bestCode 0 = .ok (.iconst 1, 1) := by decide +kernel
theorem dX3_bestCode_1 : decode cX3_bestCode 1 = .ok (.istore_n 1, 1) := by decide +kernel
theorem dX3_bestCode_2 : decode cX3_bestCode 2 = .ok (.iconst 0, 1) := by decide +kernel
theorem dX3_bestCode_3 : decode cX3_bestCode 3 = .ok (.istore_n 2, 1) := by decide +kernel
theorem dX3_bestCode_4 : decode cX3_bestCode 4 = .ok (.iload_n 2, 1) := by decide +kernel
theorem dX3_bestCode_5 : decode cX3_bestCode 5 = .ok (.aload_n 0, 1) := by decide +kernel
theorem dX3_bestCode_6 : decode cX3_bestCode 6 = .ok (.getfield 21, 3) := by decide +kernel
theorem dX3_bestCode_9 : decode cX3_bestCode 9 = .ok (.if_icmp .ge 14, 3) := by decide +kernel
theorem dX3_bestCode_12 : decode cX3_bestCode 12 = .ok (.iload_n 1, 1) := by decide +kernel
theorem dX3_bestCode_13 : decode cX3_bestCode 13 = .ok (.bipush 6, 2) := by decide +kernel
theorem dX3_bestCode_15 : decode cX3_bestCode 15 = .ok (.imul, 1) := by decide +kernel
theorem dX3_bestCode_16 : decode cX3_bestCode 16 = .ok (.istore_n 1, 1) := by decide +kernel
theorem dX3_bestCode_17 : decode cX3_bestCode 17 = .ok (.iinc 2 1, 3) := by decide +kernel
theorem dX3_bestCode_20 : decode cX3_bestCode 20 = .ok (.goto (-16), 3) := by decide +kernel
theorem dX3_bestCode_23 : decode cX3_bestCode 23 = .ok (.iconst (-1), 1) := by decide +kernel
theorem dX3_bestCode_24 : decode cX3_bestCode 24 = .ok (.istore_n 2, 1) := by decide +kernel
theorem dX3_bestCode_25 : decode cX3_bestCode 25 = .ok (.ldc 47, 2) := by decide +kernel
theorem dX3_bestCode_27 : decode cX3_bestCode 27 = .ok (.istore_n 3, 1) := by decide +kernel
theorem dX3_bestCode_28 : decode cX3_bestCode 28 = .ok (.iconst 0, 1) := by decide +kernel
theorem dX3_bestCode_29 : decode cX3_bestCode 29 = .ok (.istore 4, 2) := by decide +kernel
theorem dX3_bestCode_31 : decode cX3_bestCode 31 = .ok (.iload 4, 2) := by decide +kernel
theorem dX3_bestCode_33 : decode cX3_bestCode 33 = .ok (.iload_n 1, 1) := by decide +kernel
theorem dX3_bestCode_34 : decode cX3_bestCode 34 = .ok (.if_icmp .ge 34, 3) := by decide +kernel
theorem dX3_bestCode_37 : decode cX3_bestCode 37 = .ok (.aload_n 0, 1) := by decide +kernel
theorem dX3_bestCode_38 : decode cX3_bestCode 38 = .ok (.iload 4, 2) := by decide +kernel
theorem dX3_bestCode_40 : decode cX3_bestCode 40 = .ok (.invokevirtual 48, 3) := by decide +kernel
theorem dX3_bestCode_43 : decode cX3_bestCode 43 = .ok (.istore 5, 2) := by decide +kernel
theorem dX3_bestCode_45 : decode cX3_bestCode 45 = .ok (.iload 5, 2) := by decide +kernel
theorem dX3_bestCode_47 : decode cX3_bestCode 47 = .ok (.ifCond .lt 15, 3) := by decide +kernel
theorem dX3_bestCode_50 : decode cX3_bestCode 50 = .ok (.iload 5, 2) := by decide +kernel
theorem dX3_bestCode_52 : decode cX3_bestCode 52 = .ok (.iload_n 3, 1) := by decide +kernel
theorem dX3_bestCode_53 : decode cX3_bestCode 53 = .ok (.if_icmp .ge 9, 3) := by decide +kernel
theorem dX3_bestCode_56 : decode cX3_bestCode 56 = .ok (.iload 4, 2) := by decide +kernel
theorem dX3_bestCode_58 : decode cX3_bestCode 58 = .ok (.istore_n 2, 1) := by decide +kernel
theorem dX3_bestCode_59 : decode cX3_bestCode 59 = .ok (.iload 5, 2) := by decide +kernel
theorem dX3_bestCode_61 : decode cX3_bestCode 61 = .ok (.istore_n 3, 1) := by decide +kernel
theorem dX3_bestCode_62 : decode cX3_bestCode 62 = .ok (.iinc 4 1, 3) := by decide +kernel
theorem dX3_bestCode_65 : decode cX3_bestCode 65 = .ok (.goto (-34), 3) := by decide +kernel
theorem dX3_bestCode_68 : decode cX3_bestCode 68 = .ok (.iload_n 2, 1) := by decide +kernel
theorem dX3_bestCode_69 : decode cX3_bestCode 69 = .ok (.ireturn, 1) := by decide +kernel
set_option maxRecDepth 20000 in
theorem ggX3_sumOf_X6_at : GoodIn wsX3_sumOf wsX6_at := goodIn_r _ [6] (by decide +kernel) (by decide +kernel)
set_option maxRecDepth 20000 in
theorem gX3_sumOf_X6_at_n29 : GoodIn wsX3_sumOf (wsX6_at) := ggX3_sumOf_X6_at
set_option maxRecDepth 20000 in
theorem ggX3_sumOf_X6_holds : GoodIn wsX3_sumOf wsX6_holds := goodIn_r _ [8] (by decide +kernel) (by decide +kernel)
set_option maxRecDepth 20000 in
theorem gX3_sumOf_X6_holds_n51 : GoodIn wsX3_sumOf (wsX6_holds) := ggX3_sumOf_X6_holds
theorem dX3_sumOf_0 : decode cX3_sumOf 0 = .ok (.iconst 0, 1) := by decide +kernel
theorem dX3_sumOf_1 : decode cX3_sumOf 1 = .ok (.istore_n 2, 1) := by decide +kernel
theorem dX3_sumOf_2 : decode cX3_sumOf 2 = .ok (.iconst 0, 1) := by decide +kernel
theorem dX3_sumOf_3 : decode cX3_sumOf 3 = .ok (.istore_n 3, 1) := by decide +kernel
theorem dX3_sumOf_4 : decode cX3_sumOf 4 = .ok (.iload_n 1, 1) := by decide +kernel
theorem dX3_sumOf_5 : decode cX3_sumOf 5 = .ok (.istore 4, 2) := by decide +kernel
theorem dX3_sumOf_7 : decode cX3_sumOf 7 = .ok (.aload_n 0, 1) := by decide +kernel
theorem dX3_sumOf_8 : decode cX3_sumOf 8 = .ok (.getfield 21, 3) := by decide +kernel
theorem dX3_sumOf_11 : decode cX3_sumOf 11 = .ok (.iconst 1, 1) := by decide +kernel
theorem dX3_sumOf_12 : decode cX3_sumOf 12 = .ok (.isub, 1) := by decide +kernel
theorem dX3_sumOf_13 : decode cX3_sumOf 13 = .ok (.istore 5, 2) := by decide +kernel
theorem dX3_sumOf_15 : decode cX3_sumOf 15 = .ok (.iload 5, 2) := by decide +kernel
theorem dX3_sumOf_17 : decode cX3_sumOf 17 = .ok (.ifCond .lt 78, 3) := by decide +kernel
theorem dX3_sumOf_20 : decode cX3_sumOf 20 = .ok (.iload 4, 2) := by decide +kernel
theorem dX3_sumOf_22 : decode cX3_sumOf 22 = .ok (.bipush 6, 2) := by decide +kernel
theorem dX3_sumOf_24 : decode cX3_sumOf 24 = .ok (.irem, 1) := by decide +kernel
theorem dX3_sumOf_25 : decode cX3_sumOf 25 = .ok (.istore 6, 2) := by decide +kernel
theorem dX3_sumOf_27 : decode cX3_sumOf 27 = .ok (.iload 4, 2) := by decide +kernel
theorem dX3_sumOf_29 : decode cX3_sumOf 29 = .ok (.bipush 6, 2) := by decide +kernel
theorem dX3_sumOf_31 : decode cX3_sumOf 31 = .ok (.idiv, 1) := by decide +kernel
theorem dX3_sumOf_32 : decode cX3_sumOf 32 = .ok (.istore 4, 2) := by decide +kernel
theorem dX3_sumOf_34 : decode cX3_sumOf 34 = .ok (.aload_n 0, 1) := by decide +kernel
theorem dX3_sumOf_35 : decode cX3_sumOf 35 = .ok (.getfield 9, 3) := by decide +kernel
theorem dX3_sumOf_38 : decode cX3_sumOf 38 = .ok (.iload 5, 2) := by decide +kernel
theorem dX3_sumOf_40 : decode cX3_sumOf 40 = .ok (.bipush 6, 2) := by decide +kernel
theorem dX3_sumOf_42 : decode cX3_sumOf 42 = .ok (.imul, 1) := by decide +kernel
theorem dX3_sumOf_43 : decode cX3_sumOf 43 = .ok (.iload 6, 2) := by decide +kernel
theorem dX3_sumOf_45 : decode cX3_sumOf 45 = .ok (.iadd, 1) := by decide +kernel
theorem dX3_sumOf_46 : decode cX3_sumOf 46 = .ok (.invokestatic 29, 3) := by decide +kernel
theorem dX3_sumOf_49 : decode cX3_sumOf 49 = .ok (.istore 7, 2) := by decide +kernel
theorem dX3_sumOf_51 : decode cX3_sumOf 51 = .ok (.iload 6, 2) := by decide +kernel
theorem dX3_sumOf_53 : decode cX3_sumOf 53 = .ok (.aload_n 0, 1) := by decide +kernel
theorem dX3_sumOf_54 : decode cX3_sumOf 54 = .ok (.getfield 25, 3) := by decide +kernel
theorem dX3_sumOf_57 : decode cX3_sumOf 57 = .ok (.if_icmp .ge 17, 3) := by decide +kernel
theorem dX3_sumOf_60 : decode cX3_sumOf 60 = .ok (.iload_n 3, 1) := by decide +kernel
theorem dX3_sumOf_61 : decode cX3_sumOf 61 = .ok (.iload 6, 2) := by decide +kernel
theorem dX3_sumOf_63 : decode cX3_sumOf 63 = .ok (.invokestatic 51, 3) := by decide +kernel
theorem dX3_sumOf_66 : decode cX3_sumOf 66 = .ok (.ifCond .ne 8, 3) := by decide +kernel
theorem dX3_sumOf_69 : decode cX3_sumOf 69 = .ok (.iload 7, 2) := by decide +kernel
theorem dX3_sumOf_71 : decode cX3_sumOf 71 = .ok (.ifCond .ge 6, 3) := by decide +kernel
theorem dX3_sumOf_74 : decode cX3_sumOf 74 = .ok (.bipush (-4), 2) := by decide +kernel
theorem dX3_sumOf_76 : decode cX3_sumOf 76 = .ok (.ireturn, 1) := by decide +kernel
theorem dX3_sumOf_77 : decode cX3_sumOf 77 = .ok (.iload_n 3, 1) := by decide +kernel
theorem dX3_sumOf_78 : decode cX3_sumOf 78 = .ok (.iconst 1, 1) := by decide +kernel
theorem dX3_sumOf_79 : decode cX3_sumOf 79 = .ok (.iload 6, 2) := by decide +kernel
theorem dX3_sumOf_81 : decode cX3_sumOf 81 = .ok (.ishl, 1) := by decide +kernel
theorem dX3_sumOf_82 : decode cX3_sumOf 82 = .ok (.ior, 1) := by decide +kernel
theorem dX3_sumOf_83 : decode cX3_sumOf 83 = .ok (.istore_n 3, 1) := by decide +kernel
theorem dX3_sumOf_84 : decode cX3_sumOf 84 = .ok (.iload_n 2, 1) := by decide +kernel
theorem dX3_sumOf_85 : decode cX3_sumOf 85 = .ok (.iload 7, 2) := by decide +kernel
theorem dX3_sumOf_87 : decode cX3_sumOf 87 = .ok (.iadd, 1) := by decide +kernel
theorem dX3_sumOf_88 : decode cX3_sumOf 88 = .ok (.istore_n 2, 1) := by decide +kernel
theorem dX3_sumOf_89 : decode cX3_sumOf 89 = .ok (.iinc 5 (-1), 3) := by decide +kernel
theorem dX3_sumOf_92 : decode cX3_sumOf 92 = .ok (.goto (-77), 3) := by decide +kernel
theorem dX3_sumOf_95 : decode cX3_sumOf 95 = .ok (.iload_n 2, 1) := by decide +kernel
theorem dX3_sumOf_96 : decode cX3_sumOf 96 = .ok (.ireturn, 1) := by decide +kernel
theorem dX3_roomIn_0 : decode cX3_roomIn 0 = .ok (.iload_n 1, 1) := by decide +kernel
theorem dX3_roomIn_1 : decode cX3_roomIn 1 = .ok (.istore_n 3, 1) := by decide +kernel
theorem dX3_roomIn_2 : decode cX3_roomIn 2 = .ok (.aload_n 0, 1) := by decide +kernel
theorem dX3_roomIn_3 : decode cX3_roomIn 3 = .ok (.getfield 21, 3) := by decide +kernel
theorem dX3_roomIn_6 : decode cX3_roomIn 6 = .ok (.iconst 1, 1) := by decide +kernel
theorem dX3_roomIn_7 : decode cX3_roomIn 7 = .ok (.isub, 1) := by decide +kernel
theorem dX3_roomIn_8 : decode cX3_roomIn 8 = .ok (.istore 4, 2) := by decide +kernel
theorem dX3_roomIn_10 : decode cX3_roomIn 10 = .ok (.iload 4, 2) := by decide +kernel
theorem dX3_roomIn_12 : decode cX3_roomIn 12 = .ok (.iload_n 2, 1) := by decide +kernel
theorem dX3_roomIn_13 : decode cX3_roomIn 13 = .ok (.if_icmp .le 14, 3) := by decide +kernel
theorem dX3_roomIn_16 : decode cX3_roomIn 16 = .ok (.iload_n 3, 1) := by decide +kernel
theorem dX3_roomIn_17 : decode cX3_roomIn 17 = .ok (.bipush 6, 2) := by decide +kernel
theorem dX3_roomIn_19 : decode cX3_roomIn 19 = .ok (.idiv, 1) := by decide +kernel
theorem dX3_roomIn_20 : decode cX3_roomIn 20 = .ok (.istore_n 3, 1) := by decide +kernel
theorem dX3_roomIn_21 : decode cX3_roomIn 21 = .ok (.iinc 4 (-1), 3) := by decide +kernel
theorem dX3_roomIn_24 : decode cX3_roomIn 24 = .ok (.goto (-14), 3) := by decide +kernel
theorem dX3_roomIn_27 : decode cX3_roomIn 27 = .ok (.iload_n 3, 1) := by decide +kernel
theorem dX3_roomIn_28 : decode cX3_roomIn 28 = .ok (.bipush 6, 2) := by decide +kernel
theorem dX3_roomIn_30 : decode cX3_roomIn 30 = .ok (.irem, 1) := by decide +kernel
theorem dX3_roomIn_31 : decode cX3_roomIn 31 = .ok (.ireturn, 1) := by decide +kernel
theorem dX4_init_0 : decode cX4_init 0 = .ok (.aload_n 0, 1) := by decide +kernel
theorem dX4_init_1 : decode cX4_init 1 = .ok (.invokespecial 3, 3) := by decide +kernel
theorem dX4_init_4 : decode cX4_init 4 = .ok (.aload_n 0, 1) := by decide +kernel
theorem dX4_init_5 : decode cX4_init 5 = .ok (.sipush 300, 3) := by decide +kernel
theorem dX4_init_8 : decode cX4_init 8 = .ok (.newarray .int, 2) := by decide +kernel
theorem dX4_init_10 : decode cX4_init 10 = .ok (.putfield 9, 3) := by decide +kernel
theorem dX4_init_13 : decode cX4_init 13 = .ok (.aload_n 0, 1) := by decide +kernel
theorem dX4_init_14 : decode cX4_init 14 = .ok (.iconst 3, 1) := by decide +kernel
theorem dX4_init_15 : decode cX4_init 15 = .ok (.newarray .int, 2) := by decide +kernel
theorem dX4_init_17 : decode cX4_init 17 = .ok (.putfield 15, 3) := by decide +kernel
theorem dX4_init_20 : decode cX4_init 20 = .ok (.return_, 1) := by decide +kernel
set_option maxRecDepth 20000 in
theorem ggX4_append_X6_put : GoodIn wsX4_append wsX6_put := goodIn_r _ [5] (by decide +kernel) (by decide +kernel)
set_option maxRecDepth 20000 in
theorem gX4_append_X6_put_n22 : GoodIn wsX4_append (wsX6_put) := ggX4_append_X6_put
theorem dX4_append_0 : decode cX4_append 0 = .ok (.aload_n 0, 1) := by decide +kernel
theorem dX4_append_1 : decode cX4_append 1 = .ok (.getfield 18, 3) := by decide +kernel
theorem dX4_append_4 : decode cX4_append 4 = .ok (.sipush 300, 3) := by decide +kernel
theorem dX4_append_7 : decode cX4_append 7 = .ok (.if_icmp .ge 25, 3) := by decide +kernel
theorem dX4_append_10 : decode cX4_append 10 = .ok (.aload_n 0, 1) := by decide +kernel
theorem dX4_append_11 : decode cX4_append 11 = .ok (.getfield 9, 3) := by decide +kernel
theorem dX4_append_14 : decode cX4_append 14 = .ok (.aload_n 0, 1) := by decide +kernel
theorem dX4_append_15 : decode cX4_append 15 = .ok (.getfield 18, 3) := by decide +kernel
theorem dX4_append_18 : decode cX4_append 18 = .ok (.iload_n 1, 1) := by decide +kernel
theorem dX4_append_19 : decode cX4_append 19 = .ok (.invokestatic 22, 3) := by decide +kernel
theorem dX4_append_22 : decode cX4_append 22 = .ok (.aload_n 0, 1) := by decide +kernel
theorem dX4_append_23 : decode cX4_append 23 = .ok (.dup, 1) := by decide +kernel
theorem dX4_append_24 : decode cX4_append 24 = .ok (.getfield 18, 3) := by decide +kernel
theorem dX4_append_27 : decode cX4_append 27 = .ok (.iconst 1, 1) := by decide +kernel
theorem dX4_append_28 : decode cX4_append 28 = .ok (.iadd, 1) := by decide +kernel
theorem dX4_append_29 : decode cX4_append 29 = .ok (.putfield 18, 3) := by decide +kernel
theorem dX4_append_32 : decode cX4_append 32 = .ok (.return_, 1) := by decide +kernel
set_option maxRecDepth 20000 in
theorem ggX4_readInto_X2_clear : GoodIn wsX4_readInto wsX2_clear := goodIn_r _ [8, 9, 10, 11, 12, 13, 14, 15, 16, 17, 18, 19, 20, 103, 104, 105, 106, 107, 108, 109, 110, 111, 112, 113, 114, 115, 116, 117] (by decide +kernel) (by decide +kernel)
set_option maxRecDepth 20000 in
theorem gX4_readInto_X2_clear : GoodIn wsX4_readInto (wsV RX4 26 RX2 yX2_clear wsX2_clear) := goodIn_app (goodIn_of _ (by decide +kernel)) ggX4_readInto_X2_clear
set_option maxRecDepth 20000 in
theorem ggX4_readInto_X4_scanItem : GoodIn wsX4_readInto wsX4_scanItem := goodIn_r _ [25, 3, 2, 26, 27, 28, 24, 29, 30, 31, 32, 33, 34, 35, 36, 37, 1, 38, 39, 19, 40, 41, 42, 43, 44, 45, 46, 47, 48, 99, 100, 101, 102] (by decide +kernel) (by decide +kernel)
set_option maxRecDepth 20000 in
theorem gX4_readInto_X4_scanItem : GoodIn wsX4_readInto (wsV RX4 31 RX4 yX4_scanItem wsX4_scanItem) := goodIn_app (goodIn_of _ (by decide +kernel)) ggX4_readInto_X4_scanItem
set_option maxRecDepth 20000 in
theorem ggX4_readInto_X4_byteAt : GoodIn wsX4_readInto wsX4_byteAt := goodIn_r _ [37, 1, 38, 39, 19, 40, 99, 100, 101, 102] (by decide +kernel) (by decide +kernel)
set_option maxRecDepth 20000 in
theorem gX4_readInto_X4_byteAt : GoodIn wsX4_readInto (wsV RX4 35 RX4 yX4_byteAt wsX4_byteAt) := goodIn_app (goodIn_of _ (by decide +kernel)) ggX4_readInto_X4_byteAt
set_option maxRecDepth 20000 in
theorem ggX4_readInto_X2_take : GoodIn wsX4_readInto wsX2_take := goodIn_r _ [52, 39, 19, 40, 53, 54, 55, 7, 56, 12, 11, 41, 42, 57, 58, 59, 60, 61, 62, 63, 64, 65, 66, 67, 47, 48, 68, 69, 70, 71, 13, 72, 73, 74, 75, 76, 77, 78, 79, 80, 81, 82, 10, 83, 84, 85, 86, 14, 15, 87, 88, 89, 90, 16, 91, 92, 93, 94, 17, 95, 96, 97, 98, 9, 103, 104, 105, 106, 107, 108, 109, 110, 111, 112, 113, 114, 115, 116, 117] (by decide +kernel) (by decide +kernel)
set_option maxRecDepth 20000 in
theorem gX4_readInto_X2_take : GoodIn wsX4_readInto (wsV RX4 41 RX2 yX2_take wsX2_take) := goodIn_app (goodIn_of _ (by decide +kernel)) ggX4_readInto_X2_take
theorem dX4_readInto_0 : decode cX4_readInto 0 = .ok (.aload_n 1, 1) := by decide +kernel
theorem dX4_readInto_1 : decode cX4_readInto 1 = .ok (.invokevirtual 26, 3) := by decide +kernel
theorem dX4_readInto_4 : decode cX4_readInto 4 = .ok (.iconst 0, 1) := by decide +kernel
theorem dX4_readInto_5 : decode cX4_readInto 5 = .ok (.istore_n 2, 1) := by decide +kernel
theorem dX4_readInto_6 : decode cX4_readInto 6 = .ok (.iconst 0, 1) := by decide +kernel
theorem dX4_readInto_7 : decode cX4_readInto 7 = .ok (.istore_n 3, 1) := by decide +kernel
theorem dX4_readInto_8 : decode cX4_readInto 8 = .ok (.iload_n 3, 1) := by decide +kernel
theorem dX4_readInto_9 : decode cX4_readInto 9 = .ok (.sipush 300, 3) := by decide +kernel
theorem dX4_readInto_12 : decode cX4_readInto 12 = .ok (.if_icmp .ge 54, 3) := by decide +kernel
theorem dX4_readInto_15 : decode cX4_readInto 15 = .ok (.iload_n 2, 1) := by decide +kernel
theorem dX4_readInto_16 : decode cX4_readInto 16 = .ok (.aload_n 0, 1) := by decide +kernel
theorem dX4_readInto_17 : decode cX4_readInto 17 = .ok (.getfield 18, 3) := by decide +kernel
theorem dX4_readInto_20 : decode cX4_readInto 20 = .ok (.if_icmp .ge 46, 3) := by decide +kernel
theorem dX4_readInto_23 : decode cX4_readInto 23 = .ok (.aload_n 0, 1) := by decide +kernel
theorem dX4_readInto_24 : decode cX4_readInto 24 = .ok (.iload_n 2, 1) := by decide +kernel
theorem dX4_readInto_25 : decode cX4_readInto 25 = .ok (.invokevirtual 31, 3) := by decide +kernel
theorem dX4_readInto_28 : decode cX4_readInto 28 = .ok (.istore 4, 2) := by decide +kernel
theorem dX4_readInto_30 : decode cX4_readInto 30 = .ok (.iload 4, 2) := by decide +kernel
theorem dX4_readInto_32 : decode cX4_readInto 32 = .ok (.ifCond .lt 23, 3) := by decide +kernel
theorem dX4_readInto_35 : decode cX4_readInto 35 = .ok (.aload_n 1, 1) := by decide +kernel
theorem dX4_readInto_36 : decode cX4_readInto 36 = .ok (.aload_n 0, 1) := by decide +kernel
theorem dX4_readInto_37 : decode cX4_readInto 37 = .ok (.iload_n 2, 1) := by decide +kernel
theorem dX4_readInto_38 : decode cX4_readInto 38 = .ok (.invokevirtual 35, 3) := by decide +kernel
theorem dX4_readInto_41 : decode cX4_readInto 41 = .ok (.aload_n 0, 1) := by decide +kernel
theorem dX4_readInto_42 : decode cX4_readInto 42 = .ok (.getfield 38, 3) := by decide +kernel
theorem dX4_readInto_45 : decode cX4_readInto 45 = .ok (.aload_n 0, 1) := by decide +kernel
theorem dX4_readInto_46 : decode cX4_readInto 46 = .ok (.getfield 15, 3) := by decide +kernel
theorem dX4_readInto_49 : decode cX4_readInto 49 = .ok (.invokevirtual 41, 3) := by decide +kernel
theorem dX4_readInto_52 : decode cX4_readInto 52 = .ok (.ifCond .ne 5, 3) := by decide +kernel
theorem dX4_readInto_55 : decode cX4_readInto 55 = .ok (.iload_n 2, 1) := by decide +kernel
theorem dX4_readInto_56 : decode cX4_readInto 56 = .ok (.ireturn, 1) := by decide +kernel
theorem dX4_readInto_57 : decode cX4_readInto 57 = .ok (.iload 4, 2) := by decide +kernel
theorem dX4_readInto_59 : decode cX4_readInto 59 = .ok (.istore_n 2, 1) := by decide +kernel
theorem dX4_readInto_60 : decode cX4_readInto 60 = .ok (.iinc 3 1, 3) := by decide +kernel
theorem dX4_readInto_63 : decode cX4_readInto 63 = .ok (.goto (-55), 3) := by decide +kernel
theorem dX4_readInto_66 : decode cX4_readInto 66 = .ok (.bipush (-4), 2) := by decide +kernel
theorem dX4_readInto_68 : decode cX4_readInto 68 = .ok (.ireturn, 1) := by decide +kernel
set_option maxRecDepth 20000 in
theorem ggX4_scanItem_X4_figuresAt : GoodIn wsX4_scanItem wsX4_figuresAt := goodIn_r _ [7, 8, 9, 10, 6, 11, 12, 13, 14, 15, 16, 17, 18, 19, 20, 21, 22, 29, 30, 31, 32] (by decide +kernel) (by decide +kernel)
set_option maxRecDepth 20000 in
theorem gX4_scanItem_X4_figuresAt : GoodIn wsX4_scanItem (wsV RX4 45 RX4 yX4_figuresAt wsX4_figuresAt) := goodIn_app (goodIn_of _ (by decide +kernel)) ggX4_scanItem_X4_figuresAt
set_option maxRecDepth 20000 in
theorem ggX4_scanItem_X4_numberAt : GoodIn wsX4_scanItem wsX4_numberAt := goodIn_r _ [26, 12, 13, 14, 6, 15, 16, 17, 18, 19, 20, 29, 30, 31, 32] (by decide +kernel) (by decide +kernel)
set_option maxRecDepth 20000 in
theorem gX4_scanItem_X4_numberAt : GoodIn wsX4_scanItem (wsV RX4 48 RX4 yX4_numberAt wsX4_numberAt) := goodIn_app (goodIn_of _ (by decide +kernel)) ggX4_scanItem_X4_numberAt
set_option maxRecDepth 20000 in
theorem ggX4_scanItem_X6_put : GoodIn wsX4_scanItem wsX6_put := goodIn_r _ [28] (by decide +kernel) (by decide +kernel)
set_option maxRecDepth 20000 in
theorem gX4_scanItem_X6_put_n22 : GoodIn wsX4_scanItem (wsX6_put) := ggX4_scanItem_X6_put
set_option maxRecDepth 20000 in
theorem ggX4_scanItem_X4_byteAt : GoodIn wsX4_scanItem wsX4_byteAt := goodIn_r _ [15, 16, 17, 18, 19, 20, 29, 30, 31, 32] (by decide +kernel) (by decide +kernel)
set_option maxRecDepth 20000 in
theorem gX4_scanItem_X4_byteAt : GoodIn wsX4_scanItem (wsV RX4 35 RX4 yX4_byteAt wsX4_byteAt) := goodIn_app (goodIn_of _ (by decide +kernel)) ggX4_scanItem_X4_byteAt
theorem dX4_scanItem_0 : decode cX4_scanItem 0 = .ok (.iload_n 1, 1) := by decide +kernel
theorem dX4_scanItem_1 : decode cX4_scanItem 1 = .ok (.iconst 1, 1) := by decide +kernel
theorem dX4_scanItem_2 : decode cX4_scanItem 2 = .ok (.iadd, 1) := by decide +kernel
theorem dX4_scanItem_3 : decode cX4_scanItem 3 = .ok (.istore_n 2, 1) := by decide +kernel
theorem dX4_scanItem_4 : decode cX4_scanItem 4 = .ok (.iconst 0, 1) := by decide +kernel
theorem dX4_scanItem_5 : decode cX4_scanItem 5 = .ok (.istore_n 3, 1) := by decide +kernel
theorem dX4_scanItem_6 : decode cX4_scanItem 6 = .ok (.iload_n 3, 1) := by decide +kernel
theorem dX4_scanItem_7 : decode cX4_scanItem 7 = .ok (.iconst 3, 1) := by decide +kernel
theorem dX4_scanItem_8 : decode cX4_scanItem 8 = .ok (.if_icmp .ge 80, 3) := by decide +kernel
theorem dX4_scanItem_11 : decode cX4_scanItem 11 = .ok (.aload_n 0, 1) := by decide +kernel
theorem dX4_scanItem_12 : decode cX4_scanItem 12 = .ok (.iload_n 2, 1) := by decide +kernel
theorem dX4_scanItem_13 : decode cX4_scanItem 13 = .ok (.invokevirtual 45, 3) := by decide +kernel
theorem dX4_scanItem_16 : decode cX4_scanItem 16 = .ok (.istore 4, 2) := by decide +kernel
theorem dX4_scanItem_18 : decode cX4_scanItem 18 = .ok (.iload 4, 2) := by decide +kernel
theorem dX4_scanItem_20 : decode cX4_scanItem 20 = .ok (.ifCond .ne 5, 3) := by decide +kernel
theorem dX4_scanItem_23 : decode cX4_scanItem 23 = .ok (.iconst (-1), 1) := by decide +kernel
theorem dX4_scanItem_24 : decode cX4_scanItem 24 = .ok (.ireturn, 1) := by decide +kernel
theorem dX4_scanItem_25 : decode cX4_scanItem 25 = .ok (.aload_n 0, 1) := by decide +kernel
theorem dX4_scanItem_26 : decode cX4_scanItem 26 = .ok (.getfield 15, 3) := by decide +kernel
theorem dX4_scanItem_29 : decode cX4_scanItem 29 = .ok (.iload_n 3, 1) := by decide +kernel
theorem dX4_scanItem_30 : decode cX4_scanItem 30 = .ok (.aload_n 0, 1) := by decide +kernel
theorem dX4_scanItem_31 : decode cX4_scanItem 31 = .ok (.iload_n 2, 1) := by decide +kernel
theorem dX4_scanItem_32 : decode cX4_scanItem 32 = .ok (.iload 4, 2) := by decide +kernel
theorem dX4_scanItem_34 : decode cX4_scanItem 34 = .ok (.invokevirtual 48, 3) := by decide +kernel
theorem dX4_scanItem_37 : decode cX4_scanItem 37 = .ok (.invokestatic 22, 3) := by decide +kernel
theorem dX4_scanItem_40 : decode cX4_scanItem 40 = .ok (.aload_n 0, 1) := by decide +kernel
theorem dX4_scanItem_41 : decode cX4_scanItem 41 = .ok (.iload_n 3, 1) := by decide +kernel
theorem dX4_scanItem_42 : decode cX4_scanItem 42 = .ok (.iconst 1, 1) := by decide +kernel
theorem dX4_scanItem_43 : decode cX4_scanItem 43 = .ok (.iadd, 1) := by decide +kernel
theorem dX4_scanItem_44 : decode cX4_scanItem 44 = .ok (.putfield 38, 3) := by decide +kernel
theorem dX4_scanItem_47 : decode cX4_scanItem 47 = .ok (.aload_n 0, 1) := by decide +kernel
theorem dX4_scanItem_48 : decode cX4_scanItem 48 = .ok (.iload_n 2, 1) := by decide +kernel
theorem dX4_scanItem_49 : decode cX4_scanItem 49 = .ok (.iload 4, 2) := by decide +kernel
theorem dX4_scanItem_51 : decode cX4_scanItem 51 = .ok (.iadd, 1) := by decide +kernel
theorem dX4_scanItem_52 : decode cX4_scanItem 52 = .ok (.invokevirtual 35, 3) := by decide +kernel
theorem dX4_scanItem_55 : decode cX4_scanItem 55 = .ok (.istore 5, 2) := by decide +kernel
theorem dX4_scanItem_57 : decode cX4_scanItem 57 = .ok (.iload_n 2, 1) := by decide +kernel
theorem dX4_scanItem_58 : decode cX4_scanItem 58 = .ok (.iload 4, 2) := by decide +kernel
theorem dX4_scanItem_60 : decode cX4_scanItem 60 = .ok (.iconst 1, 1) := by decide +kernel
theorem dX4_scanItem_61 : decode cX4_scanItem 61 = .ok (.iadd, 1) := by decide +kernel
theorem dX4_scanItem_62 : decode cX4_scanItem 62 = .ok (.iadd, 1) := by decide +kernel
theorem dX4_scanItem_63 : decode cX4_scanItem 63 = .ok (.istore_n 2, 1) := by decide +kernel
theorem dX4_scanItem_64 : decode cX4_scanItem 64 = .ok (.iload 5, 2) := by decide +kernel
theorem dX4_scanItem_66 : decode cX4_scanItem 66 = .ok (.bipush 59, 2) := by decide +kernel
theorem dX4_scanItem_68 : decode cX4_scanItem 68 = .ok (.if_icmp .ne 5, 3) := by decide +kernel
theorem dX4_scanItem_71 : decode cX4_scanItem 71 = .ok (.iload_n 2, 1) := by decide +kernel
theorem dX4_scanItem_72 : decode cX4_scanItem 72 = .ok (.ireturn, 1) := by decide +kernel
theorem dX4_scanItem_73 : decode cX4_scanItem 73 = .ok (.iload 5, 2) := by decide +kernel
theorem dX4_scanItem_75 : decode cX4_scanItem 75 = .ok (.bipush 44, 2) := by decide +kernel
theorem dX4_scanItem_77 : decode cX4_scanItem 77 = .ok (.if_icmp .eq 5, 3) := by decide +kernel
theorem dX4_scanItem_80 : decode cX4_scanItem 80 = .ok (.iconst (-1), 1) := by decide +kernel
theorem dX4_scanItem_81 : decode cX4_scanItem 81 = .ok (.ireturn, 1) := by decide +kernel
theorem dX4_scanItem_82 : decode cX4_scanItem 82 = .ok (.iinc 3 1, 3) := by decide +kernel
theorem dX4_scanItem_85 : decode cX4_scanItem 85 = .ok (.goto (-79), 3) := by decide +kernel
theorem dX4_scanItem_88 : decode cX4_scanItem 88 = .ok (.iconst (-1), 1) := by decide +kernel
theorem dX4_scanItem_89 : decode cX4_scanItem 89 = .ok (.ireturn, 1) := by decide +kernel
set_option maxRecDepth 20000 in
theorem ggX4_figuresAt_X4_isFigure : GoodIn wsX4_figuresAt wsX4_isFigure := goodIn_r _ [5, 6, 7, 8, 4, 9, 10, 11, 12, 13, 14, 15, 16, 17, 18, 19, 20] (by decide +kernel) (by decide +kernel)
set_option maxRecDepth 20000 in
theorem gX4_figuresAt_X4_isFigure : GoodIn wsX4_figuresAt (wsV RX4 52 RX4 yX4_isFigure wsX4_isFigure) := goodIn_app (goodIn_of _ (by decide +kernel)) ggX4_figuresAt_X4_isFigure
theorem dX4_figuresAt_0 : decode cX4_figuresAt 0 = .ok (.aload_n 0, 1) := by decide +kernel
theorem dX4_figuresAt_1 : decode cX4_figuresAt 1 = .ok (.iload_n 1, 1) := by decide +kernel
theorem dX4_figuresAt_2 : decode cX4_figuresAt 2 = .ok (.invokevirtual 52, 3) := by decide +kernel
theorem dX4_figuresAt_5 : decode cX4_figuresAt 5 = .ok (.ifCond .ne 5, 3) := by decide +kernel
theorem dX4_figuresAt_8 : decode cX4_figuresAt 8 = .ok (.iconst 0, 1) := by decide +kernel
theorem dX4_figuresAt_9 : decode cX4_figuresAt 9 = .ok (.ireturn, 1) := by decide +kernel
theorem dX4_figuresAt_10 : decode cX4_figuresAt 10 = .ok (.aload_n 0, 1) := by decide +kernel
theorem dX4_figuresAt_11 : decode cX4_figuresAt 11 = .ok (.iload_n 1, 1) := by decide +kernel
theorem dX4_figuresAt_12 : decode cX4_figuresAt 12 = .ok (.iconst 1, 1) := by decide +kernel
theorem dX4_figuresAt_13 : decode cX4_figuresAt 13 = .ok (.iadd, 1) := by decide +kernel
theorem dX4_figuresAt_14 : decode cX4_figuresAt 14 = .ok (.invokevirtual 52, 3) := by decide +kernel
theorem dX4_figuresAt_17 : decode cX4_figuresAt 17 = .ok (.ifCond .eq 7, 3) := by decide +kernel
theorem dX4_figuresAt_20 : decode cX4_figuresAt 20 = .ok (.iconst 2, 1) := by decide +kernel
theorem dX4_figuresAt_21 : decode cX4_figuresAt 21 = .ok (.goto 4, 3) := by decide +kernel
theorem dX4_figuresAt_24 : decode cX4_figuresAt 24 = .ok (.iconst 1, 1) := by decide +kernel
theorem dX4_figuresAt_25 : decode cX4_figuresAt 25 = .ok (.ireturn, 1) := by decide +kernel
set_option maxRecDepth 20000 in
theorem ggX4_numberAt_X4_byteAt : GoodIn wsX4_numberAt wsX4_byteAt := goodIn_r _ [5, 6, 7, 8, 9, 10, 11, 12, 13, 14] (by decide +kernel) (by decide +kernel)
set_option maxRecDepth 20000 in
theorem gX4_numberAt_X4_byteAt : GoodIn wsX4_numberAt (wsV RX4 35 RX4 yX4_byteAt wsX4_byteAt) := goodIn_app (goodIn_of _ (by decide +kernel)) ggX4_numberAt_X4_byteAt
theorem dX4_numberAt_0 : decode cX4_numberAt 0 = .ok (.aload_n 0, 1) := by decide +kernel
theorem dX4_numberAt_1 : decode cX4_numberAt 1 = .ok (.iload_n 1, 1) := by decide +kernel
theorem dX4_numberAt_2 : decode cX4_numberAt 2 = .ok (.invokevirtual 35, 3) := by decide +kernel
theorem dX4_numberAt_5 : decode cX4_numberAt 5 = .ok (.bipush 48, 2) := by decide +kernel
theorem dX4_numberAt_7 : decode cX4_numberAt 7 = .ok (.isub, 1) := by decide +kernel
theorem dX4_numberAt_8 : decode cX4_numberAt 8 = .ok (.istore_n 3, 1) := by decide +kernel
theorem dX4_numberAt_9 : decode cX4_numberAt 9 = .ok (.iload_n 2, 1) := by decide +kernel
theorem dX4_numberAt_10 : decode cX4_numberAt 10 = .ok (.iconst 2, 1) := by decide +kernel
theorem dX4_numberAt_11 : decode cX4_numberAt 11 = .ok (.if_icmp .ne 21, 3) := by decide +kernel
theorem dX4_numberAt_14 : decode cX4_numberAt 14 = .ok (.iload_n 3, 1) := by decide +kernel
theorem dX4_numberAt_15 : decode cX4_numberAt 15 = .ok (.bipush 10, 2) := by decide +kernel
theorem dX4_numberAt_17 : decode cX4_numberAt 17 = .ok (.imul, 1) := by decide +kernel
theorem dX4_numberAt_18 : decode cX4_numberAt 18 = .ok (.aload_n 0, 1) := by decide +kernel
theorem dX4_numberAt_19 : decode cX4_numberAt 19 = .ok (.iload_n 1, 1) := by decide +kernel
theorem dX4_numberAt_20 : decode cX4_numberAt 20 = .ok (.iconst 1, 1) := by decide +kernel
theorem dX4_numberAt_21 : decode cX4_numberAt 21 = .ok (.iadd, 1) := by decide +kernel
theorem dX4_numberAt_22 : decode cX4_numberAt 22 = .ok (.invokevirtual 35, 3) := by decide +kernel
theorem dX4_numberAt_25 : decode cX4_numberAt 25 = .ok (.iadd, 1) := by decide +kernel
theorem dX4_numberAt_26 : decode cX4_numberAt 26 = .ok (.bipush 48, 2) := by decide +kernel
theorem dX4_numberAt_28 : decode cX4_numberAt 28 = .ok (.isub, 1) := by decide +kernel
theorem dX4_numberAt_29 : decode cX4_numberAt 29 = .ok (.goto 4, 3) := by decide +kernel
theorem dX4_numberAt_32 : decode cX4_numberAt 32 = .ok (.iload_n 3, 1) := by decide +kernel
theorem dX4_numberAt_33 : decode cX4_numberAt 33 = .ok (.ireturn, 1) := by decide +kernel
set_option maxRecDepth 20000 in
theorem ggX4_byteAt_X6_at : GoodIn wsX4_byteAt wsX6_at := goodIn_r _ [5] (by decide +kernel) (by decide +kernel)
set_option maxRecDepth 20000 in
theorem gX4_byteAt_X6_at_n56 : GoodIn wsX4_byteAt (wsX6_at) := ggX4_byteAt_X6_at
theorem dX4_byteAt_0 : decode cX4_byteAt 0 = .ok (.iload_n 1, 1) := by decide +kernel
theorem dX4_byteAt_1 : decode cX4_byteAt 1 = .ok (.aload_n 0, 1) := by decide +kernel
theorem dX4_byteAt_2 : decode cX4_byteAt 2 = .ok (.getfield 18, 3) := by decide +kernel
theorem dX4_byteAt_5 : decode cX4_byteAt 5 = .ok (.if_icmp .ge 14, 3) := by decide +kernel
theorem dX4_byteAt_8 : decode cX4_byteAt 8 = .ok (.aload_n 0, 1) := by decide +kernel
theorem dX4_byteAt_9 : decode cX4_byteAt 9 = .ok (.getfield 9, 3) := by decide +kernel
theorem dX4_byteAt_12 : decode cX4_byteAt 12 = .ok (.iload_n 1, 1) := by decide +kernel
theorem dX4_byteAt_13 : decode cX4_byteAt 13 = .ok (.invokestatic 56, 3) := by decide +kernel
theorem dX4_byteAt_16 : decode cX4_byteAt 16 = .ok (.goto 4, 3) := by decide +kernel
theorem dX4_byteAt_19 : decode cX4_byteAt 19 = .ok (.iconst (-1), 1) := by decide +kernel
theorem dX4_byteAt_20 : decode cX4_byteAt 20 = .ok (.ireturn, 1) := by decide +kernel
set_option maxRecDepth 20000 in
theorem ggX4_isFigure_X4_byteAt : GoodIn wsX4_isFigure wsX4_byteAt := goodIn_r _ [5, 6, 7, 8, 9, 10, 13, 14, 15, 16] (by decide +kernel) (by decide +kernel)
set_option maxRecDepth 20000 in
theorem gX4_isFigure_X4_byteAt : GoodIn wsX4_isFigure (wsV RX4 35 RX4 yX4_byteAt wsX4_byteAt) := goodIn_app (goodIn_of _ (by decide +kernel)) ggX4_isFigure_X4_byteAt
set_option maxRecDepth 20000 in
theorem ggX4_isFigure_X6_within : GoodIn wsX4_isFigure wsX6_within := goodIn_r _ [12] (by decide +kernel) (by decide +kernel)
set_option maxRecDepth 20000 in
theorem gX4_isFigure_X6_within_n60 : GoodIn wsX4_isFigure (wsX6_within) := ggX4_isFigure_X6_within
theorem dX4_isFigure_0 : decode cX4_isFigure 0 = .ok (.aload_n 0, 1) := by decide +kernel
theorem dX4_isFigure_1 : decode cX4_isFigure 1 = .ok (.iload_n 1, 1) := by decide +kernel
theorem dX4_isFigure_2 : decode cX4_isFigure 2 = .ok (.invokevirtual 35, 3) := by decide +kernel
theorem dX4_isFigure_5 : decode cX4_isFigure 5 = .ok (.bipush 48, 2) := by decide +kernel
theorem dX4_isFigure_7 : decode cX4_isFigure 7 = .ok (.bipush 57, 2) := by decide +kernel
theorem dX4_isFigure_9 : decode cX4_isFigure 9 = .ok (.invokestatic 60, 3) := by decide +kernel
theorem dX4_isFigure_12 : decode cX4_isFigure 12 = .ok (.ireturn, 1) := by decide +kernel
theorem dX5_init_0 : decode cX5_init 0 = .ok (.aload_n 0, 1) := by decide +kernel
theorem dX5_init_1 : decode cX5_init 1 = .ok (.invokespecial 3, 3) := by decide +kernel
theorem dX5_init_4 : decode cX5_init 4 = .ok (.aload_n 0, 1) := by decide +kernel
theorem dX5_init_5 : decode cX5_init 5 = .ok (.bipush 6, 2) := by decide +kernel
theorem dX5_init_7 : decode cX5_init 7 = .ok (.newarray .int, 2) := by decide +kernel
theorem dX5_init_9 : decode cX5_init 9 = .ok (.putfield 9, 3) := by decide +kernel
theorem dX5_init_12 : decode cX5_init 12 = .ok (.aload_n 0, 1) := by decide +kernel
theorem dX5_init_13 : decode cX5_init 13 = .ok (.bipush 8, 2) := by decide +kernel
theorem dX5_init_15 : decode cX5_init 15 = .ok (.newarray .int, 2) := by decide +kernel
theorem dX5_init_17 : decode cX5_init 17 = .ok (.putfield 15, 3) := by decide +kernel
theorem dX5_init_20 : decode cX5_init 20 = .ok (.return_, 1) := by decide +kernel
set_option maxRecDepth 20000 in
theorem ggX5_measure_X6_holds : GoodIn wsX5_measure wsX6_holds := goodIn_r _ [6] (by decide +kernel) (by decide +kernel)
set_option maxRecDepth 20000 in
theorem gX5_measure_X6_holds_n24 : GoodIn wsX5_measure (wsX6_holds) := ggX5_measure_X6_holds
set_option maxRecDepth 20000 in
theorem ggX5_measure_X0_minutesThrough : GoodIn wsX5_measure wsX0_minutesThrough := goodIn_r _ [11, 12, 13, 14, 10, 15, 16, 17, 5, 18, 19, 20, 21, 22, 23, 50, 51, 52, 53, 54, 55] (by decide +kernel) (by decide +kernel)
set_option maxRecDepth 20000 in
theorem gX5_measure_X0_minutesThrough : GoodIn wsX5_measure (wsV RX5 28 RX0 yX0_minutesThrough wsX0_minutesThrough) := goodIn_app (goodIn_of _ (by decide +kernel)) ggX5_measure_X0_minutesThrough
set_option maxRecDepth 20000 in
theorem ggX5_measure_X6_put : GoodIn wsX5_measure wsX6_put := goodIn_r _ [25] (by decide +kernel) (by decide +kernel)
set_option maxRecDepth 20000 in
theorem gX5_measure_X6_put_n34 : GoodIn wsX5_measure (wsX6_put) := ggX5_measure_X6_put
set_option maxRecDepth 20000 in
theorem ggX5_measure_X6_fill : GoodIn wsX5_measure wsX6_fill := goodIn_r _ [27] (by decide +kernel) (by decide +kernel)
set_option maxRecDepth 20000 in
theorem gX5_measure_X6_fill_n39 : GoodIn wsX5_measure (wsX6_fill) := ggX5_measure_X6_fill
set_option maxRecDepth 20000 in
theorem ggX5_measure_X5_shorten : GoodIn wsX5_measure wsX5_shorten := goodIn_r _ [32, 2, 1, 17, 5, 18, 24, 25, 33, 34, 35, 36, 37, 38, 39, 40, 41, 42, 43, 44, 45, 46, 47, 48, 49] (by decide +kernel) (by decide +kernel)
set_option maxRecDepth 20000 in
theorem gX5_measure_X5_shorten : GoodIn wsX5_measure (wsV RX5 46 RX5 yX5_shorten wsX5_shorten) := goodIn_app (goodIn_of _ (by decide +kernel)) ggX5_measure_X5_shorten
theorem dX5_measure_0 : decode cX5_measure 0 = .ok (.iconst 0, 1) := by decide +kernel
theorem dX5_measure_1 : decode cX5_measure 1 = .ok (.istore 6, 2) := by decide +kernel
theorem dX5_measure_3 : decode cX5_measure 3 = .ok (.iload 6, 2) := by decide +kernel
theorem dX5_measure_5 : decode cX5_measure 5 = .ok (.aload_n 1, 1) := by decide +kernel
theorem dX5_measure_6 : decode cX5_measure 6 = .ok (.getfield 18, 3) := by decide +kernel
theorem dX5_measure_9 : decode cX5_measure 9 = .ok (.if_icmp .ge 39, 3) := by decide +kernel
theorem dX5_measure_12 : decode cX5_measure 12 = .ok (.aload_n 0, 1) := by decide +kernel
theorem dX5_measure_13 : decode cX5_measure 13 = .ok (.getfield 15, 3) := by decide +kernel
theorem dX5_measure_16 : decode cX5_measure 16 = .ok (.iload 6, 2) := by decide +kernel
theorem dX5_measure_18 : decode cX5_measure 18 = .ok (.iload 5, 2) := by decide +kernel
theorem dX5_measure_20 : decode cX5_measure 20 = .ok (.iload 6, 2) := by decide +kernel
theorem dX5_measure_22 : decode cX5_measure 22 = .ok (.invokestatic 24, 3) := by decide +kernel
theorem dX5_measure_25 : decode cX5_measure 25 = .ok (.ifCond .eq 7, 3) := by decide +kernel
theorem dX5_measure_28 : decode cX5_measure 28 = .ok (.iconst 1, 1) := by decide +kernel
theorem dX5_measure_29 : decode cX5_measure 29 = .ok (.goto 10, 3) := by decide +kernel
theorem dX5_measure_32 : decode cX5_measure 32 = .ok (.aload_n 2, 1) := by decide +kernel
theorem dX5_measure_33 : decode cX5_measure 33 = .ok (.iload 6, 2) := by decide +kernel
theorem dX5_measure_35 : decode cX5_measure 35 = .ok (.iload_n 3, 1) := by decide +kernel
theorem dX5_measure_36 : decode cX5_measure 36 = .ok (.invokevirtual 28, 3) := by decide +kernel
theorem dX5_measure_39 : decode cX5_measure 39 = .ok (.invokestatic 34, 3) := by decide +kernel
theorem dX5_measure_42 : decode cX5_measure 42 = .ok (.iinc 6 1, 3) := by decide +kernel
theorem dX5_measure_45 : decode cX5_measure 45 = .ok (.goto (-42), 3) := by decide +kernel
theorem dX5_measure_48 : decode cX5_measure 48 = .ok (.aload_n 0, 1) := by decide +kernel
theorem dX5_measure_49 : decode cX5_measure 49 = .ok (.getfield 9, 3) := by decide +kernel
theorem dX5_measure_52 : decode cX5_measure 52 = .ok (.ldc 38, 2) := by decide +kernel
theorem dX5_measure_54 : decode cX5_measure 54 = .ok (.invokestatic 39, 3) := by decide +kernel
theorem dX5_measure_57 : decode cX5_measure 57 = .ok (.aload_n 0, 1) := by decide +kernel
theorem dX5_measure_58 : decode cX5_measure 58 = .ok (.getfield 9, 3) := by decide +kernel
theorem dX5_measure_61 : decode cX5_measure 61 = .ok (.iload 4, 2) := by decide +kernel
theorem dX5_measure_63 : decode cX5_measure 63 = .ok (.iconst 0, 1) := by decide +kernel
theorem dX5_measure_64 : decode cX5_measure 64 = .ok (.invokestatic 34, 3) := by decide +kernel
theorem dX5_measure_67 : decode cX5_measure 67 = .ok (.iconst 1, 1) := by decide +kernel
theorem dX5_measure_68 : decode cX5_measure 68 = .ok (.istore 6, 2) := by decide +kernel
theorem dX5_measure_70 : decode cX5_measure 70 = .ok (.iconst 1, 1) := by decide +kernel
theorem dX5_measure_71 : decode cX5_measure 71 = .ok (.istore 7, 2) := by decide +kernel
theorem dX5_measure_73 : decode cX5_measure 73 = .ok (.iload 7, 2) := by decide +kernel
theorem dX5_measure_75 : decode cX5_measure 75 = .ok (.aload_n 1, 1) := by decide +kernel
theorem dX5_measure_76 : decode cX5_measure 76 = .ok (.getfield 43, 3) := by decide +kernel
theorem dX5_measure_79 : decode cX5_measure 79 = .ok (.if_icmp .ge 21, 3) := by decide +kernel
theorem dX5_measure_82 : decode cX5_measure 82 = .ok (.iload 6, 2) := by decide +kernel
theorem dX5_measure_84 : decode cX5_measure 84 = .ok (.ifCond .eq 16, 3) := by decide +kernel
theorem dX5_measure_87 : decode cX5_measure 87 = .ok (.aload_n 0, 1) := by decide +kernel
theorem dX5_measure_88 : decode cX5_measure 88 = .ok (.aload_n 1, 1) := by decide +kernel
theorem dX5_measure_89 : decode cX5_measure 89 = .ok (.invokevirtual 46, 3) := by decide +kernel
theorem dX5_measure_92 : decode cX5_measure 92 = .ok (.istore 6, 2) := by decide +kernel
theorem dX5_measure_94 : decode cX5_measure 94 = .ok (.iinc 7 1, 3) := by decide +kernel
theorem dX5_measure_97 : decode cX5_measure 97 = .ok (.goto (-24), 3) := by decide +kernel
theorem dX5_measure_100 : decode cX5_measure 100 = .ok (.return_, 1) := by decide +kernel
set_option maxRecDepth 20000 in
theorem ggX5_shorten_X6_at : GoodIn wsX5_shorten wsX6_at := goodIn_r _ [5] (by decide +kernel) (by decide +kernel)
set_option maxRecDepth 20000 in
theorem gX5_shorten_X6_at_n53 : GoodIn wsX5_shorten (wsX6_at) := ggX5_shorten_X6_at
set_option maxRecDepth 20000 in
theorem ggX5_shorten_X6_put : GoodIn wsX5_shorten wsX6_put := goodIn_r _ [7] (by decide +kernel) (by decide +kernel)
set_option maxRecDepth 20000 in
theorem gX5_shorten_X6_put_n34 : GoodIn wsX5_shorten (wsX6_put) := ggX5_shorten_X6_put
theorem dX5_shorten_0 : decode cX5_shorten 0 = .ok (.iconst 0, 1) := by decide +kernel
theorem dX5_shorten_1 : decode cX5_shorten 1 = .ok (.istore_n 2, 1) := by decide +kernel
theorem dX5_shorten_2 : decode cX5_shorten 2 = .ok (.iconst 0, 1) := by decide +kernel
theorem dX5_shorten_3 : decode cX5_shorten 3 = .ok (.istore_n 3, 1) := by decide +kernel
theorem dX5_shorten_4 : decode cX5_shorten 4 = .ok (.iload_n 3, 1) := by decide +kernel
theorem dX5_shorten_5 : decode cX5_shorten 5 = .ok (.aload_n 1, 1) := by decide +kernel
theorem dX5_shorten_6 : decode cX5_shorten 6 = .ok (.getfield 18, 3) := by decide +kernel
theorem dX5_shorten_9 : decode cX5_shorten 9 = .ok (.if_icmp .ge 126, 3) := by decide +kernel
theorem dX5_shorten_12 : decode cX5_shorten 12 = .ok (.aload_n 1, 1) := by decide +kernel
theorem dX5_shorten_13 : decode cX5_shorten 13 = .ok (.getfield 50, 3) := by decide +kernel
theorem dX5_shorten_16 : decode cX5_shorten 16 = .ok (.iload_n 3, 1) := by decide +kernel
theorem dX5_shorten_17 : decode cX5_shorten 17 = .ok (.invokestatic 53, 3) := by decide +kernel
theorem dX5_shorten_20 : decode cX5_shorten 20 = .ok (.istore 4, 2) := by decide +kernel
theorem dX5_shorten_22 : decode cX5_shorten 22 = .ok (.aload_n 1, 1) := by decide +kernel
theorem dX5_shorten_23 : decode cX5_shorten 23 = .ok (.getfield 57, 3) := by decide +kernel
theorem dX5_shorten_26 : decode cX5_shorten 26 = .ok (.iload_n 3, 1) := by decide +kernel
theorem dX5_shorten_27 : decode cX5_shorten 27 = .ok (.invokestatic 53, 3) := by decide +kernel
theorem dX5_shorten_30 : decode cX5_shorten 30 = .ok (.istore 5, 2) := by decide +kernel
theorem dX5_shorten_32 : decode cX5_shorten 32 = .ok (.aload_n 0, 1) := by decide +kernel
theorem dX5_shorten_33 : decode cX5_shorten 33 = .ok (.getfield 9, 3) := by decide +kernel
theorem dX5_shorten_36 : decode cX5_shorten 36 = .ok (.iload 4, 2) := by decide +kernel
theorem dX5_shorten_38 : decode cX5_shorten 38 = .ok (.invokestatic 53, 3) := by decide +kernel
theorem dX5_shorten_41 : decode cX5_shorten 41 = .ok (.aload_n 0, 1) := by decide +kernel
theorem dX5_shorten_42 : decode cX5_shorten 42 = .ok (.getfield 15, 3) := by decide +kernel
theorem dX5_shorten_45 : decode cX5_shorten 45 = .ok (.iload_n 3, 1) := by decide +kernel
theorem dX5_shorten_46 : decode cX5_shorten 46 = .ok (.invokestatic 53, 3) := by decide +kernel
theorem dX5_shorten_49 : decode cX5_shorten 49 = .ok (.iadd, 1) := by decide +kernel
theorem dX5_shorten_50 : decode cX5_shorten 50 = .ok (.istore 6, 2) := by decide +kernel
theorem dX5_shorten_52 : decode cX5_shorten 52 = .ok (.aload_n 0, 1) := by decide +kernel
theorem dX5_shorten_53 : decode cX5_shorten 53 = .ok (.getfield 9, 3) := by decide +kernel
theorem dX5_shorten_56 : decode cX5_shorten 56 = .ok (.iload 5, 2) := by decide +kernel
theorem dX5_shorten_58 : decode cX5_shorten 58 = .ok (.invokestatic 53, 3) := by decide +kernel
theorem dX5_shorten_61 : decode cX5_shorten 61 = .ok (.aload_n 0, 1) := by decide +kernel
theorem dX5_shorten_62 : decode cX5_shorten 62 = .ok (.getfield 15, 3) := by decide +kernel
theorem dX5_shorten_65 : decode cX5_shorten 65 = .ok (.iload_n 3, 1) := by decide +kernel
theorem dX5_shorten_66 : decode cX5_shorten 66 = .ok (.invokestatic 53, 3) := by decide +kernel
theorem dX5_shorten_69 : decode cX5_shorten 69 = .ok (.iadd, 1) := by decide +kernel
theorem dX5_shorten_70 : decode cX5_shorten 70 = .ok (.istore 7, 2) := by decide +kernel
theorem dX5_shorten_72 : decode cX5_shorten 72 = .ok (.iload 7, 2) := by decide +kernel
theorem dX5_shorten_74 : decode cX5_shorten 74 = .ok (.aload_n 0, 1) := by decide +kernel
theorem dX5_shorten_75 : decode cX5_shorten 75 = .ok (.getfield 9, 3) := by decide +kernel
theorem dX5_shorten_78 : decode cX5_shorten 78 = .ok (.iload 4, 2) := by decide +kernel
theorem dX5_shorten_80 : decode cX5_shorten 80 = .ok (.invokestatic 53, 3) := by decide +kernel
theorem dX5_shorten_83 : decode cX5_shorten 83 = .ok (.if_icmp .ge 19, 3) := by decide +kernel
theorem dX5_shorten_86 : decode cX5_shorten 86 = .ok (.aload_n 0, 1) := by decide +kernel
theorem dX5_shorten_87 : decode cX5_shorten 87 = .ok (.getfield 9, 3) := by decide +kernel
theorem dX5_shorten_90 : decode cX5_shorten 90 = .ok (.iload 4, 2) := by decide +kernel
theorem dX5_shorten_92 : decode cX5_shorten 92 = .ok (.iload 7, 2) := by decide +kernel
theorem dX5_shorten_94 : decode cX5_shorten 94 = .ok (.invokestatic 34, 3) := by decide +kernel
theorem dX5_shorten_97 : decode cX5_shorten 97 = .ok (.iconst 1, 1) := by decide +kernel
theorem dX5_shorten_98 : decode cX5_shorten 98 = .ok (.istore_n 2, 1) := by decide +kernel
theorem dX5_shorten_99 : decode cX5_shorten 99 = .ok (.goto 30, 3) := by decide +kernel
theorem dX5_shorten_102 : decode cX5_shorten 102 = .ok (.iload 6, 2) := by decide +kernel
theorem dX5_shorten_104 : decode cX5_shorten 104 = .ok (.aload_n 0, 1) := by decide +kernel
theorem dX5_shorten_105 : decode cX5_shorten 105 = .ok (.getfield 9, 3) := by decide +kernel
theorem dX5_shorten_108 : decode cX5_shorten 108 = .ok (.iload 5, 2) := by decide +kernel
theorem dX5_shorten_110 : decode cX5_shorten 110 = .ok (.invokestatic 53, 3) := by decide +kernel
theorem dX5_shorten_113 : decode cX5_shorten 113 = .ok (.if_icmp .ge 16, 3) := by decide +kernel
theorem dX5_shorten_116 : decode cX5_shorten 116 = .ok (.aload_n 0, 1) := by decide +kernel
theorem dX5_shorten_117 : decode cX5_shorten 117 = .ok (.getfield 9, 3) := by decide +kernel
theorem dX5_shorten_120 : decode cX5_shorten 120 = .ok (.iload 5, 2) := by decide +kernel
theorem dX5_shorten_122 : decode cX5_shorten 122 = .ok (.iload 6, 2) := by decide +kernel
theorem dX5_shorten_124 : decode cX5_shorten 124 = .ok (.invokestatic 34, 3) := by decide +kernel
theorem dX5_shorten_127 : decode cX5_shorten 127 = .ok (.iconst 1, 1) := by decide +kernel
theorem dX5_shorten_128 : decode cX5_shorten 128 = .ok (.istore_n 2, 1) := by decide +kernel
theorem dX5_shorten_129 : decode cX5_shorten 129 = .ok (.iinc 3 1, 3) := by decide +kernel
theorem dX5_shorten_132 : decode cX5_shorten 132 = .ok (.goto (-128), 3) := by decide +kernel
theorem dX5_shorten_135 : decode cX5_shorten 135 = .ok (.iload_n 2, 1) := by decide +kernel
theorem dX5_shorten_136 : decode cX5_shorten 136 = .ok (.ireturn, 1) := by decide +kernel
set_option maxRecDepth 20000 in
theorem ggX5_minutesFrom_X6_at : GoodIn wsX5_minutesFrom wsX6_at := goodIn_r _ [5] (by decide +kernel) (by decide +kernel)
set_option maxRecDepth 20000 in
theorem gX5_minutesFrom_X6_at_n53 : GoodIn wsX5_minutesFrom (wsX6_at) := ggX5_minutesFrom_X6_at
theorem dX5_minutesFrom_0 : decode cX5_minutesFrom 0 = .ok (.aload_n 0, 1) := by decide +kernel
theorem dX5_minutesFrom_1 : decode cX5_minutesFrom 1 = .ok (.getfield 9, 3) := by decide +kernel
theorem dX5_minutesFrom_4 : decode cX5_minutesFrom 4 = .ok (.iload_n 1, 1) := by decide +kernel
theorem dX5_minutesFrom_5 : decode cX5_minutesFrom 5 = .ok (.invokestatic 53, 3) := by decide +kernel
theorem dX5_minutesFrom_8 : decode cX5_minutesFrom 8 = .ok (.ldc 38, 2) := by decide +kernel
theorem dX5_minutesFrom_10 : decode cX5_minutesFrom 10 = .ok (.if_icmp .ge 14, 3) := by decide +kernel
theorem dX5_minutesFrom_13 : decode cX5_minutesFrom 13 = .ok (.aload_n 0, 1) := by decide +kernel
theorem dX5_minutesFrom_14 : decode cX5_minutesFrom 14 = .ok (.getfield 9, 3) := by decide +kernel
theorem dX5_minutesFrom_17 : decode cX5_minutesFrom 17 = .ok (.iload_n 1, 1) := by decide +kernel
theorem dX5_minutesFrom_18 : decode cX5_minutesFrom 18 = .ok (.invokestatic 53, 3) := by decide +kernel
theorem dX5_minutesFrom_21 : decode cX5_minutesFrom 21 = .ok (.goto 5, 3) := by decide +kernel
theorem dX5_minutesFrom_24 : decode cX5_minutesFrom 24 = .ok (.bipush (-4), 2) := by decide +kernel
theorem dX5_minutesFrom_26 : decode cX5_minutesFrom 26 = .ok (.ireturn, 1) := by decide +kernel
set_option maxRecDepth 20000 in
theorem ggX5_lowestDoorFrom_X5_minutesFrom : GoodIn wsX5_lowestDoorFrom wsX5_minutesFrom := goodIn_r _ [7, 2, 8, 9, 10, 11, 34, 35] (by decide +kernel) (by decide +kernel)
set_option maxRecDepth 20000 in
theorem gX5_lowestDoorFrom_X5_minutesFrom : GoodIn wsX5_lowestDoorFrom (wsV RX5 60 RX5 yX5_minutesFrom wsX5_minutesFrom) := goodIn_app (goodIn_of _ (by decide +kernel)) ggX5_lowestDoorFrom_X5_minutesFrom
set_option maxRecDepth 20000 in
theorem ggX5_lowestDoorFrom_X2_otherSide : GoodIn wsX5_lowestDoorFrom wsX2_otherSide := goodIn_r _ [16, 17, 18, 9, 10, 11, 19, 20, 21, 22, 23, 24, 25, 26, 27, 28, 29, 30, 31, 32, 33] (by decide +kernel) (by decide +kernel)
set_option maxRecDepth 20000 in
theorem gX5_lowestDoorFrom_X2_otherSide : GoodIn wsX5_lowestDoorFrom (wsV RX5 64 RX2 yX2_otherSide wsX2_otherSide) := goodIn_app (goodIn_of _ (by decide +kernel)) ggX5_lowestDoorFrom_X2_otherSide
set_option maxRecDepth 20000 in
theorem ggX5_lowestDoorFrom_X6_at : GoodIn wsX5_lowestDoorFrom wsX6_at := goodIn_r _ [11] (by decide +kernel) (by decide +kernel)
set_option maxRecDepth 20000 in
theorem gX5_lowestDoorFrom_X6_at_n53 : GoodIn wsX5_lowestDoorFrom (wsX6_at) := ggX5_lowestDoorFrom_X6_at
theorem dX5_lowestDoorFrom_0 : decode cX5_lowestDoorFrom 0 = .ok (.aload_n 0, 1) := by decide +kernel
theorem dX5_lowestDoorFrom_1 : decode cX5_lowestDoorFrom 1 = .ok (.iload_n 2, 1) := by decide +kernel
theorem dX5_lowestDoorFrom_2 : decode cX5_lowestDoorFrom 2 = .ok (.invokevirtual 60, 3) := by decide +kernel
theorem dX5_lowestDoorFrom_5 : decode cX5_lowestDoorFrom 5 = .ok (.ifCond .gt 6, 3) := by decide +kernel
theorem dX5_lowestDoorFrom_8 : decode cX5_lowestDoorFrom 8 = .ok (.bipush (-4), 2) := by decide +kernel
theorem dX5_lowestDoorFrom_10 : decode cX5_lowestDoorFrom 10 = .ok (.ireturn, 1) := by decide +kernel
theorem dX5_lowestDoorFrom_11 : decode cX5_lowestDoorFrom 11 = .ok (.iconst 0, 1) := by decide +kernel
theorem dX5_lowestDoorFrom_12 : decode cX5_lowestDoorFrom 12 = .ok (.istore_n 3, 1) := by decide +kernel
theorem dX5_lowestDoorFrom_13 : decode cX5_lowestDoorFrom 13 = .ok (.iload_n 3, 1) := by decide +kernel
theorem dX5_lowestDoorFrom_14 : decode cX5_lowestDoorFrom 14 = .ok (.aload_n 1, 1) := by decide +kernel
theorem dX5_lowestDoorFrom_15 : decode cX5_lowestDoorFrom 15 = .ok (.getfield 18, 3) := by decide +kernel
theorem dX5_lowestDoorFrom_18 : decode cX5_lowestDoorFrom 18 = .ok (.if_icmp .ge 53, 3) := by decide +kernel
theorem dX5_lowestDoorFrom_21 : decode cX5_lowestDoorFrom 21 = .ok (.aload_n 1, 1) := by decide +kernel
theorem dX5_lowestDoorFrom_22 : decode cX5_lowestDoorFrom 22 = .ok (.iload_n 3, 1) := by decide +kernel
theorem dX5_lowestDoorFrom_23 : decode cX5_lowestDoorFrom 23 = .ok (.iload_n 2, 1) := by decide +kernel
theorem dX5_lowestDoorFrom_24 : decode cX5_lowestDoorFrom 24 = .ok (.invokevirtual 64, 3) := by decide +kernel
theorem dX5_lowestDoorFrom_27 : decode cX5_lowestDoorFrom 27 = .ok (.istore 4, 2) := by decide +kernel
theorem dX5_lowestDoorFrom_29 : decode cX5_lowestDoorFrom 29 = .ok (.iload 4, 2) := by decide +kernel
theorem dX5_lowestDoorFrom_31 : decode cX5_lowestDoorFrom 31 = .ok (.ifCond .lt 34, 3) := by decide +kernel
theorem dX5_lowestDoorFrom_34 : decode cX5_lowestDoorFrom 34 = .ok (.aload_n 0, 1) := by decide +kernel
theorem dX5_lowestDoorFrom_35 : decode cX5_lowestDoorFrom 35 = .ok (.getfield 15, 3) := by decide +kernel
theorem dX5_lowestDoorFrom_38 : decode cX5_lowestDoorFrom 38 = .ok (.iload_n 3, 1) := by decide +kernel
theorem dX5_lowestDoorFrom_39 : decode cX5_lowestDoorFrom 39 = .ok (.invokestatic 53, 3) := by decide +kernel
theorem dX5_lowestDoorFrom_42 : decode cX5_lowestDoorFrom 42 = .ok (.aload_n 0, 1) := by decide +kernel
theorem dX5_lowestDoorFrom_43 : decode cX5_lowestDoorFrom 43 = .ok (.getfield 9, 3) := by decide +kernel
theorem dX5_lowestDoorFrom_46 : decode cX5_lowestDoorFrom 46 = .ok (.iload 4, 2) := by decide +kernel
theorem dX5_lowestDoorFrom_48 : decode cX5_lowestDoorFrom 48 = .ok (.invokestatic 53, 3) := by decide +kernel
theorem dX5_lowestDoorFrom_51 : decode cX5_lowestDoorFrom 51 = .ok (.iadd, 1) := by decide +kernel
theorem dX5_lowestDoorFrom_52 : decode cX5_lowestDoorFrom 52 = .ok (.aload_n 0, 1) := by decide +kernel
theorem dX5_lowestDoorFrom_53 : decode cX5_lowestDoorFrom 53 = .ok (.getfield 9, 3) := by decide +kernel
theorem dX5_lowestDoorFrom_56 : decode cX5_lowestDoorFrom 56 = .ok (.iload_n 2, 1) := by decide +kernel
theorem dX5_lowestDoorFrom_57 : decode cX5_lowestDoorFrom 57 = .ok (.invokestatic 53, 3) := by decide +kernel
theorem dX5_lowestDoorFrom_60 : decode cX5_lowestDoorFrom 60 = .ok (.if_icmp .ne 5, 3) := by decide +kernel
theorem dX5_lowestDoorFrom_63 : decode cX5_lowestDoorFrom 63 = .ok (.iload_n 3, 1) := by decide +kernel
theorem dX5_lowestDoorFrom_64 : decode cX5_lowestDoorFrom 64 = .ok (.ireturn, 1) := by decide +kernel
theorem dX5_lowestDoorFrom_65 : decode cX5_lowestDoorFrom 65 = .ok (.iinc 3 1, 3) := by decide +kernel
theorem dX5_lowestDoorFrom_68 : decode cX5_lowestDoorFrom 68 = .ok (.goto (-55), 3) := by decide +kernel
theorem dX5_lowestDoorFrom_71 : decode cX5_lowestDoorFrom 71 = .ok (.bipush (-4), 2) := by decide +kernel
theorem dX5_lowestDoorFrom_73 : decode cX5_lowestDoorFrom 73 = .ok (.ireturn, 1) := by decide +kernel
end
section
set_option maxRecDepth 20000 in
theorem ggX6_init_X4_init : GoodIn wsX6_init wsX4_init := goodIn_r _ [32, 33, 2, 3, 34, 35, 36, 102, 103, 104, 105] (by decide +kernel) (by decide +kernel)
set_option maxRecDepth 20000 in
theorem gX6_init_X4_init_n9 : GoodIn wsX6_init (wsX4_init) := ggX6_init_X4_init
set_option maxRecDepth 20000 in
theorem ggX6_init_X0_init : GoodIn wsX6_init wsX0_init := goodIn_r _ [38, 39, 2, 3, 34, 40, 41, 42, 43, 115, 116, 117, 118, 119, 120] (by decide +kernel) (by decide +kernel)
set_option maxRecDepth 20000 in
theorem gX6_init_X0_init_n18 : GoodIn wsX6_init (wsX0_init) := ggX6_init_X0_init
set_option maxRecDepth 20000 in
theorem ggX6_init_X1_init : GoodIn wsX6_init wsX1_init := goodIn_r _ [46, 47, 2, 3, 48, 49, 50, 51, 52, 53, 9, 10, 37, 38, 39, 34, 40, 41, 42, 43, 121, 122, 115, 116, 117, 118, 119, 120] (by decide +kernel) (by decide +kernel)
set_option maxRecDepth 20000 in
theorem gX6_init_X1_init : GoodIn wsX6_init (wsX1_init) := ggX6_init_X1_init
set_option maxRecDepth 20000 in
theorem ggX6_init_X5_init : GoodIn wsX6_init wsX5_init := goodIn_r _ [55, 56, 2, 3, 34, 57, 58, 123, 124] (by decide +kernel) (by decide +kernel)
set_option maxRecDepth 20000 in
theorem gX6_init_X5_init_n40 : GoodIn wsX6_init (wsX5_init) := ggX6_init_X5_init
set_option maxRecDepth 20000 in
theorem ggX6_init_X3_init : GoodIn wsX6_init wsX3_init := goodIn_r _ [60, 61, 2, 3, 34, 62, 125, 126, 127] (by decide +kernel) (by decide +kernel)
set_option maxRecDepth 20000 in
theorem gX6_init_X3_init_n47 : GoodIn wsX6_init (wsX3_init) := ggX6_init_X3_init
set_option maxRecDepth 20000 in
theorem ggX6_init_X2_init : GoodIn wsX6_init wsX2_init := goodIn_r _ [64, 65, 2, 3, 34, 66, 67, 68, 69, 70, 71, 72, 73, 74, 75, 76, 77, 78, 128, 129, 130, 131, 132, 133, 134, 135, 136, 137, 138, 139, 140, 141, 142] (by decide +kernel) (by decide +kernel)
set_option maxRecDepth 20000 in
theorem gX6_init_X2_init_n54 : GoodIn wsX6_init (wsX2_init) := ggX6_init_X2_init
set_option maxRecDepth 20000 in
theorem ggX6_init_X2_addDoor : GoodIn wsX6_init wsX2_addDoor := goodIn_r _ [82, 66, 83, 67, 68, 84, 85, 86, 128, 129, 130, 131, 132, 133, 134, 135, 136, 137, 138, 139, 140, 141, 142] (by decide +kernel) (by decide +kernel)
set_option maxRecDepth 20000 in
theorem gX6_init_X2_addDoor : GoodIn wsX6_init (wsV RX6 62 RX2 yX2_addDoor wsX2_addDoor) := goodIn_app (goodIn_of _ (by decide +kernel)) ggX6_init_X2_addDoor
set_option maxRecDepth 20000 in
theorem ggX6_init_X2_addLodger : GoodIn wsX6_init wsX2_addLodger := goodIn_r _ [90, 70, 91, 71, 72, 84, 85, 86, 128, 129, 130, 131, 132, 133, 134, 135, 136, 137, 138, 139, 140, 141, 142] (by decide +kernel) (by decide +kernel)
set_option maxRecDepth 20000 in
theorem gX6_init_X2_addLodger : GoodIn wsX6_init (wsV RX6 66 RX2 yX2_addLodger wsX2_addLodger) := goodIn_app (goodIn_of _ (by decide +kernel)) ggX6_init_X2_addLodger
set_option maxRecDepth 20000 in
theorem ggX6_init_X0_beginAs : GoodIn wsX6_init wsX0_beginAs := goodIn_r _ [95, 40, 43, 42, 96, 97, 98, 85, 99, 100, 101, 128, 129, 130, 131, 132, 133, 134, 135, 136, 137, 138, 139, 140, 141, 142, 115, 116, 117, 118, 119, 120] (by decide +kernel) (by decide +kernel)
set_option maxRecDepth 20000 in
theorem gX6_init_X0_beginAs : GoodIn wsX6_init (wsV RX6 69 RX0 yX0_beginAs wsX0_beginAs) := goodIn_app (goodIn_of _ (by decide +kernel)) ggX6_init_X0_beginAs
theorem dX6_init_0 : decode cX6_init 0 = .ok (.aload_n 0, 1) := by decide +kernel
theorem dX6_init_1 : decode cX6_init 1 = .ok (.invokespecial 1, 3) := by decide +kernel
theorem dX6_init_4 : decode cX6_init 4 = .ok (.aload_n 0, 1) := by decide +kernel
theorem dX6_init_5 : decode cX6_init 5 = .ok (.new 7, 3) := by decide +kernel
theorem dX6_init_8 : decode cX6_init 8 = .ok (.dup, 1) := by decide +kernel
theorem dX6_init_9 : decode cX6_init 9 = .ok (.invokespecial 9, 3) := by decide +kernel
theorem dX6_init_12 : decode cX6_init 12 = .ok (.putfield 10, 3) := by decide +kernel
theorem dX6_init_15 : decode cX6_init 15 = .ok (.aload_n 0, 1) := by decide +kernel
theorem dX6_init_16 : decode cX6_init 16 = .ok (.new 16, 3) := by decide +kernel
theorem dX6_init_19 : decode cX6_init 19 = .ok (.dup, 1) := by decide +kernel
theorem dX6_init_20 : decode cX6_init 20 = .ok (.invokespecial 18, 3) := by decide +kernel
theorem dX6_init_23 : decode cX6_init 23 = .ok (.putfield 19, 3) := by decide +kernel
theorem dX6_init_26 : decode cX6_init 26 = .ok (.aload_n 0, 1) := by decide +kernel
theorem dX6_init_27 : decode cX6_init 27 = .ok (.new 16, 3) := by decide +kernel
theorem dX6_init_30 : decode cX6_init 30 = .ok (.dup, 1) := by decide +kernel
theorem dX6_init_31 : decode cX6_init 31 = .ok (.invokespecial 18, 3) := by decide +kernel
theorem dX6_init_34 : decode cX6_init 34 = .ok (.putfield 23, 3) := by decide +kernel
theorem dX6_init_37 : decode cX6_init 37 = .ok (.aload_n 0, 1) := by decide +kernel
theorem dX6_init_38 : decode cX6_init 38 = .ok (.new 26, 3) := by decide +kernel
theorem dX6_init_41 : decode cX6_init 41 = .ok (.dup, 1) := by decide +kernel
theorem dX6_init_42 : decode cX6_init 42 = .ok (.bipush 8, 2) := by decide +kernel
theorem dX6_init_44 : decode cX6_init 44 = .ok (.invokespecial 28, 3) := by decide +kernel
theorem dX6_init_47 : decode cX6_init 47 = .ok (.putfield 31, 3) := by decide +kernel
theorem dX6_init_50 : decode cX6_init 50 = .ok (.aload_n 0, 1) := by decide +kernel
theorem dX6_init_51 : decode cX6_init 51 = .ok (.new 26, 3) := by decide +kernel
theorem dX6_init_54 : decode cX6_init 54 = .ok (.dup, 1) := by decide +kernel
theorem dX6_init_55 : decode cX6_init 55 = .ok (.iconst 2, 1) := by decide +kernel
theorem dX6_init_56 : decode cX6_init 56 = .ok (.invokespecial 28, 3) := by decide +kernel
theorem dX6_init_59 : decode cX6_init 59 = .ok (.putfield 35, 3) := by decide +kernel
theorem dX6_init_62 : decode cX6_init 62 = .ok (.aload_n 0, 1) := by decide +kernel
theorem dX6_init_63 : decode cX6_init 63 = .ok (.new 38, 3) := by decide +kernel
theorem dX6_init_66 : decode cX6_init 66 = .ok (.dup, 1) := by decide +kernel
theorem dX6_init_67 : decode cX6_init 67 = .ok (.invokespecial 40, 3) := by decide +kernel
theorem dX6_init_70 : decode cX6_init 70 = .ok (.putfield 41, 3) := by decide +kernel
theorem dX6_init_73 : decode cX6_init 73 = .ok (.aload_n 0, 1) := by decide +kernel
theorem dX6_init_74 : decode cX6_init 74 = .ok (.new 45, 3) := by decide +kernel
theorem dX6_init_77 : decode cX6_init 77 = .ok (.dup, 1) := by decide +kernel
theorem dX6_init_78 : decode cX6_init 78 = .ok (.invokespecial 47, 3) := by decide +kernel
theorem dX6_init_81 : decode cX6_init 81 = .ok (.putfield 48, 3) := by decide +kernel
theorem dX6_init_84 : decode cX6_init 84 = .ok (.aload_n 0, 1) := by decide +kernel
theorem dX6_init_85 : decode cX6_init 85 = .ok (.new 52, 3) := by decide +kernel
theorem dX6_init_88 : decode cX6_init 88 = .ok (.dup, 1) := by decide +kernel
theorem dX6_init_89 : decode cX6_init 89 = .ok (.invokespecial 54, 3) := by decide +kernel
theorem dX6_init_92 : decode cX6_init 92 = .ok (.putfield 55, 3) := by decide +kernel
theorem dX6_init_95 : decode cX6_init 95 = .ok (.aload_n 0, 1) := by decide +kernel
theorem dX6_init_96 : decode cX6_init 96 = .ok (.new 52, 3) := by decide +kernel
theorem dX6_init_99 : decode cX6_init 99 = .ok (.dup, 1) := by decide +kernel
theorem dX6_init_100 : decode cX6_init 100 = .ok (.invokespecial 54, 3) := by decide +kernel
theorem dX6_init_103 : decode cX6_init 103 = .ok (.putfield 59, 3) := by decide +kernel
theorem dX6_init_106 : decode cX6_init 106 = .ok (.aload_n 0, 1) := by decide +kernel
theorem dX6_init_107 : decode cX6_init 107 = .ok (.getfield 55, 3) := by decide +kernel
theorem dX6_init_110 : decode cX6_init 110 = .ok (.iconst 0, 1) := by decide +kernel
theorem dX6_init_111 : decode cX6_init 111 = .ok (.iconst 1, 1) := by decide +kernel
theorem dX6_init_112 : decode cX6_init 112 = .ok (.iconst 1, 1) := by decide +kernel
theorem dX6_init_113 : decode cX6_init 113 = .ok (.invokevirtual 62, 3) := by decide +kernel
theorem dX6_init_116 : decode cX6_init 116 = .ok (.aload_n 0, 1) := by decide +kernel
theorem dX6_init_117 : decode cX6_init 117 = .ok (.getfield 55, 3) := by decide +kernel
theorem dX6_init_120 : decode cX6_init 120 = .ok (.iconst 1, 1) := by decide +kernel
theorem dX6_init_121 : decode cX6_init 121 = .ok (.iconst 2, 1) := by decide +kernel
theorem dX6_init_122 : decode cX6_init 122 = .ok (.iconst 0, 1) := by decide +kernel
theorem dX6_init_123 : decode cX6_init 123 = .ok (.invokevirtual 62, 3) := by decide +kernel
theorem dX6_init_126 : decode cX6_init 126 = .ok (.aload_n 0, 1) := by decide +kernel
theorem dX6_init_127 : decode cX6_init 127 = .ok (.getfield 55, 3) := by decide +kernel
theorem dX6_init_130 : decode cX6_init 130 = .ok (.iconst 0, 1) := by decide +kernel
theorem dX6_init_131 : decode cX6_init 131 = .ok (.iconst 5, 1) := by decide +kernel
theorem dX6_init_132 : decode cX6_init 132 = .ok (.iconst 2, 1) := by decide +kernel
theorem dX6_init_133 : decode cX6_init 133 = .ok (.invokevirtual 66, 3) := by decide +kernel
theorem dX6_init_136 : decode cX6_init 136 = .ok (.aload_n 0, 1) := by decide +kernel
theorem dX6_init_137 : decode cX6_init 137 = .ok (.getfield 55, 3) := by decide +kernel
theorem dX6_init_140 : decode cX6_init 140 = .ok (.iconst 2, 1) := by decide +kernel
theorem dX6_init_141 : decode cX6_init 141 = .ok (.iconst 3, 1) := by decide +kernel
theorem dX6_init_142 : decode cX6_init 142 = .ok (.iconst 0, 1) := by decide +kernel
theorem dX6_init_143 : decode cX6_init 143 = .ok (.invokevirtual 66, 3) := by decide +kernel
theorem dX6_init_146 : decode cX6_init 146 = .ok (.aload_n 0, 1) := by decide +kernel
theorem dX6_init_147 : decode cX6_init 147 = .ok (.getfield 19, 3) := by decide +kernel
theorem dX6_init_150 : decode cX6_init 150 = .ok (.aload_n 0, 1) := by decide +kernel
theorem dX6_init_151 : decode cX6_init 151 = .ok (.getfield 55, 3) := by decide +kernel
theorem dX6_init_154 : decode cX6_init 154 = .ok (.invokevirtual 69, 3) := by decide +kernel
theorem dX6_init_157 : decode cX6_init 157 = .ok (.return_, 1) := by decide +kernel
set_option maxRecDepth 20000 in
theorem ggX6_write_X6_within : GoodIn wsX6_write wsX6_within := goodIn_r _ [5] (by decide +kernel) (by decide +kernel)
set_option maxRecDepth 20000 in
theorem gX6_write_X6_within : GoodIn wsX6_write (va_wsS RX6 73 yX6_within wsX6_within) := goodIn_app (goodIn_of _ (by decide +kernel)) ggX6_write_X6_within
set_option maxRecDepth 20000 in
theorem ggX6_write_X4_append : GoodIn wsX6_write wsX4_append := goodIn_r _ [10, 11, 12, 13, 4, 14, 24, 25, 26, 27] (by decide +kernel) (by decide +kernel)
set_option maxRecDepth 20000 in
theorem gX6_write_X4_append : GoodIn wsX6_write (wsV RX6 81 RX4 yX4_append wsX4_append) := goodIn_app (goodIn_of _ (by decide +kernel)) ggX6_write_X4_append
theorem dX6_write_0 : decode cX6_write 0 = .ok (.iload_n 1, 1) := by decide +kernel
theorem dX6_write_1 : decode cX6_write 1 = .ok (.iconst 1, 1) := by decide +kernel
theorem dX6_write_2 : decode cX6_write 2 = .ok (.bipush 8, 2) := by decide +kernel
theorem dX6_write_4 : decode cX6_write 4 = .ok (.invokestatic 73, 3) := by decide +kernel
theorem dX6_write_7 : decode cX6_write 7 = .ok (.ifCond .ne 5, 3) := by decide +kernel
theorem dX6_write_10 : decode cX6_write 10 = .ok (.iconst (-1), 1) := by decide +kernel
theorem dX6_write_11 : decode cX6_write 11 = .ok (.ireturn, 1) := by decide +kernel
theorem dX6_write_12 : decode cX6_write 12 = .ok (.aload_n 0, 1) := by decide +kernel
theorem dX6_write_13 : decode cX6_write 13 = .ok (.getfield 10, 3) := by decide +kernel
theorem dX6_write_16 : decode cX6_write 16 = .ok (.getfield 77, 3) := by decide +kernel
theorem dX6_write_19 : decode cX6_write 19 = .ok (.iload_n 1, 1) := by decide +kernel
theorem dX6_write_20 : decode cX6_write 20 = .ok (.iadd, 1) := by decide +kernel
theorem dX6_write_21 : decode cX6_write 21 = .ok (.sipush 300, 3) := by decide +kernel
theorem dX6_write_24 : decode cX6_write 24 = .ok (.if_icmp .le 6, 3) := by decide +kernel
theorem dX6_write_27 : decode cX6_write 27 = .ok (.bipush (-3), 2) := by decide +kernel
theorem dX6_write_29 : decode cX6_write 29 = .ok (.ireturn, 1) := by decide +kernel
theorem dX6_write_30 : decode cX6_write 30 = .ok (.iload_n 1, 1) := by decide +kernel
theorem dX6_write_31 : decode cX6_write 31 = .ok (.iconst 1, 1) := by decide +kernel
theorem dX6_write_32 : decode cX6_write 32 = .ok (.isub, 1) := by decide +kernel
theorem dX6_write_33 : decode cX6_write 33 = .ok (.istore 4, 2) := by decide +kernel
theorem dX6_write_35 : decode cX6_write 35 = .ok (.iload 4, 2) := by decide +kernel
theorem dX6_write_37 : decode cX6_write 37 = .ok (.ifCond .lt 28, 3) := by decide +kernel
theorem dX6_write_40 : decode cX6_write 40 = .ok (.aload_n 0, 1) := by decide +kernel
theorem dX6_write_41 : decode cX6_write 41 = .ok (.getfield 10, 3) := by decide +kernel
theorem dX6_write_44 : decode cX6_write 44 = .ok (.lload_n 2, 1) := by decide +kernel
theorem dX6_write_45 : decode cX6_write 45 = .ok (.bipush 8, 2) := by decide +kernel
theorem dX6_write_47 : decode cX6_write 47 = .ok (.iload 4, 2) := by decide +kernel
theorem dX6_write_49 : decode cX6_write 49 = .ok (.imul, 1) := by decide +kernel
theorem dX6_write_50 : decode cX6_write 50 = .ok (.lushr, 1) := by decide +kernel
theorem dX6_write_51 : decode cX6_write 51 = .ok (.l2i, 1) := by decide +kernel
theorem dX6_write_52 : decode cX6_write 52 = .ok (.sipush 255, 3) := by decide +kernel
theorem dX6_write_55 : decode cX6_write 55 = .ok (.iand, 1) := by decide +kernel
theorem dX6_write_56 : decode cX6_write 56 = .ok (.invokevirtual 81, 3) := by decide +kernel
theorem dX6_write_59 : decode cX6_write 59 = .ok (.iinc 4 (-1), 3) := by decide +kernel
theorem dX6_write_62 : decode cX6_write 62 = .ok (.goto (-27), 3) := by decide +kernel
theorem dX6_write_65 : decode cX6_write 65 = .ok (.aload_n 0, 1) := by decide +kernel
theorem dX6_write_66 : decode cX6_write 66 = .ok (.getfield 10, 3) := by decide +kernel
theorem dX6_write_69 : decode cX6_write 69 = .ok (.getfield 77, 3) := by decide +kernel
theorem dX6_write_72 : decode cX6_write 72 = .ok (.ireturn, 1) := by decide +kernel
theorem dX6_wipe_0 : decode cX6_wipe 0 = .ok (.aload_n 0, 1) := by decide +kernel
theorem dX6_wipe_1 : decode cX6_wipe 1 = .ok (.getfield 10, 3) := by decide +kernel
theorem dX6_wipe_4 : decode cX6_wipe 4 = .ok (.getfield 77, 3) := by decide +kernel
theorem dX6_wipe_7 : decode cX6_wipe 7 = .ok (.istore_n 1, 1) := by decide +kernel
theorem dX6_wipe_8 : decode cX6_wipe 8 = .ok (.aload_n 0, 1) := by decide +kernel
theorem dX6_wipe_9 : decode cX6_wipe 9 = .ok (.getfield 10, 3) := by decide +kernel
theorem dX6_wipe_12 : decode cX6_wipe 12 = .ok (.iconst 0, 1) := by decide +kernel
theorem dX6_wipe_13 : decode cX6_wipe 13 = .ok (.putfield 77, 3) := by decide +kernel
theorem dX6_wipe_16 : decode cX6_wipe 16 = .ok (.iload_n 1, 1) := by decide +kernel
theorem dX6_wipe_17 : decode cX6_wipe 17 = .ok (.ireturn, 1) := by decide +kernel
set_option maxRecDepth 20000 in
theorem ggX6_fault_X4_readInto : GoodIn wsX6_fault wsX4_readInto := goodIn_r _ [7, 8, 9, 10, 11, 12, 13, 14, 15, 16, 17, 18, 19, 20, 21, 22, 23, 24, 25, 26, 27, 28, 29, 30, 6, 31, 32, 33, 34, 35, 36, 37, 38, 39, 40, 41, 42, 43, 44, 45, 46, 47, 48, 49, 50, 51, 52, 53, 54, 55, 56, 57, 58, 59, 60, 61, 62, 63, 64, 65, 66, 67, 68, 69, 70, 71, 72, 73, 74, 75, 76, 77, 78, 79, 80, 81, 82, 83, 84, 85, 86, 87, 88, 89, 90, 91, 92, 93, 94, 95, 96, 97, 98, 99, 100, 101, 102, 103, 104, 114, 115, 116, 117, 118, 119, 120, 121, 122, 123, 124, 125, 126, 127, 128, 129, 130, 131, 132] (by decide +kernel) (by decide +kernel)
set_option maxRecDepth 20000 in
theorem gX6_fault_X4_readInto : GoodIn wsX6_fault (wsV RX6 84 RX4 yX4_readInto wsX4_readInto) := goodIn_app (goodIn_of _ (by decide +kernel)) ggX6_fault_X4_readInto
theorem dX6_fault_0 : decode cX6_fault 0 = .ok (.aload_n 0, 1) := by decide +kernel
theorem dX6_fault_1 : decode cX6_fault 1 = .ok (.getfield 10, 3) := by decide +kernel
theorem dX6_fault_4 : decode cX6_fault 4 = .ok (.aload_n 0, 1) := by decide +kernel
theorem dX6_fault_5 : decode cX6_fault 5 = .ok (.getfield 59, 3) := by decide +kernel
theorem dX6_fault_8 : decode cX6_fault 8 = .ok (.invokevirtual 84, 3) := by decide +kernel
theorem dX6_fault_11 : decode cX6_fault 11 = .ok (.ireturn, 1) := by decide +kernel
set_option maxRecDepth 20000 in
theorem ggX6_lay_X4_readInto : GoodIn wsX6_lay wsX4_readInto := goodIn_r _ [11, 12, 13, 14, 15, 16, 17, 18, 19, 20, 21, 22, 23, 24, 25, 26, 27, 28, 29, 30, 31, 32, 33, 34, 10, 35, 36, 37, 38, 39, 40, 41, 42, 43, 44, 45, 46, 47, 48, 49, 50, 51, 52, 53, 54, 55, 56, 57, 58, 59, 60, 61, 62, 63, 64, 65, 66, 67, 68, 69, 70, 71, 72, 73, 74, 75, 76, 77, 78, 79, 80, 81, 82, 83, 84, 85, 86, 87, 88, 89, 90, 91, 92, 93, 94, 95, 96, 97, 98, 99, 100, 101, 102, 103, 104, 105, 106, 107, 108, 155, 156, 157, 158, 140, 141, 142, 143, 144, 145, 146, 147, 148, 149, 150, 151, 152, 153, 154] (by decide +kernel) (by decide +kernel)
set_option maxRecDepth 20000 in
theorem gX6_lay_X4_readInto : GoodIn wsX6_lay (wsV RX6 84 RX4 yX4_readInto wsX4_readInto) := goodIn_app (goodIn_of _ (by decide +kernel)) ggX6_lay_X4_readInto
set_option maxRecDepth 20000 in
theorem ggX6_lay_X2_canStand : GoodIn wsX6_lay wsX2_canStand := goodIn_r _ [112, 23, 77, 24, 86, 22, 88, 49, 30, 50, 140, 141, 142, 143, 144, 145, 146, 147, 148, 149, 150, 151, 152, 153, 154] (by decide +kernel) (by decide +kernel)
set_option maxRecDepth 20000 in
theorem gX6_lay_X2_canStand : GoodIn wsX6_lay (wsV RX6 88 RX2 yX2_canStand wsX2_canStand) := goodIn_app (goodIn_of _ (by decide +kernel)) ggX6_lay_X2_canStand
set_option maxRecDepth 20000 in
theorem ggX6_lay_X0_beginAs : GoodIn wsX6_lay wsX0_beginAs := goodIn_r _ [117, 118, 119, 120, 121, 122, 123, 30, 124, 29, 31, 140, 141, 142, 143, 144, 145, 146, 147, 148, 149, 150, 151, 152, 153, 154, 159, 160, 161, 162, 163, 164] (by decide +kernel) (by decide +kernel)
set_option maxRecDepth 20000 in
theorem gX6_lay_X0_beginAs : GoodIn wsX6_lay (wsV RX6 69 RX0 yX0_beginAs wsX0_beginAs) := goodIn_app (goodIn_of _ (by decide +kernel)) ggX6_lay_X0_beginAs
set_option maxRecDepth 20000 in
theorem ggX6_lay_X1_forgetAll : GoodIn wsX6_lay wsX1_forgetAll := goodIn_r _ [129, 130, 165, 166] (by decide +kernel) (by decide +kernel)
set_option maxRecDepth 20000 in
theorem gX6_lay_X1_forgetAll : GoodIn wsX6_lay (wsV RX6 92 RX1 yX1_forgetAll wsX1_forgetAll) := goodIn_app (goodIn_of _ (by decide +kernel)) ggX6_lay_X1_forgetAll
theorem dX6_lay_0 : decode cX6_lay 0 = .ok (.aload_n 0, 1) := by decide +kernel
theorem dX6_lay_1 : decode cX6_lay 1 = .ok (.getfield 10, 3) := by decide +kernel
theorem dX6_lay_4 : decode cX6_lay 4 = .ok (.aload_n 0, 1) := by decide +kernel
theorem dX6_lay_5 : decode cX6_lay 5 = .ok (.getfield 59, 3) := by decide +kernel
theorem dX6_lay_8 : decode cX6_lay 8 = .ok (.invokevirtual 84, 3) := by decide +kernel
theorem dX6_lay_11 : decode cX6_lay 11 = .ok (.bipush (-4), 2) := by decide +kernel
theorem dX6_lay_13 : decode cX6_lay 13 = .ok (.if_icmp .ne 13, 3) := by decide +kernel
theorem dX6_lay_16 : decode cX6_lay 16 = .ok (.aload_n 0, 1) := by decide +kernel
theorem dX6_lay_17 : decode cX6_lay 17 = .ok (.getfield 59, 3) := by decide +kernel
theorem dX6_lay_20 : decode cX6_lay 20 = .ok (.invokevirtual 88, 3) := by decide +kernel
theorem dX6_lay_23 : decode cX6_lay 23 = .ok (.ifCond .ne 6, 3) := by decide +kernel
theorem dX6_lay_26 : decode cX6_lay 26 = .ok (.bipush (-2), 2) := by decide +kernel
theorem dX6_lay_28 : decode cX6_lay 28 = .ok (.ireturn, 1) := by decide +kernel
theorem dX6_lay_29 : decode cX6_lay 29 = .ok (.aload_n 0, 1) := by decide +kernel
theorem dX6_lay_30 : decode cX6_lay 30 = .ok (.getfield 59, 3) := by decide +kernel
theorem dX6_lay_33 : decode cX6_lay 33 = .ok (.astore_n 1, 1) := by decide +kernel
theorem dX6_lay_34 : decode cX6_lay 34 = .ok (.aload_n 0, 1) := by decide +kernel
theorem dX6_lay_35 : decode cX6_lay 35 = .ok (.aload_n 0, 1) := by decide +kernel
theorem dX6_lay_36 : decode cX6_lay 36 = .ok (.getfield 55, 3) := by decide +kernel
theorem dX6_lay_39 : decode cX6_lay 39 = .ok (.putfield 59, 3) := by decide +kernel
theorem dX6_lay_42 : decode cX6_lay 42 = .ok (.aload_n 0, 1) := by decide +kernel
theorem dX6_lay_43 : decode cX6_lay 43 = .ok (.aload_n 1, 1) := by decide +kernel
theorem dX6_lay_44 : decode cX6_lay 44 = .ok (.putfield 55, 3) := by decide +kernel
theorem dX6_lay_47 : decode cX6_lay 47 = .ok (.aload_n 0, 1) := by decide +kernel
theorem dX6_lay_48 : decode cX6_lay 48 = .ok (.getfield 19, 3) := by decide +kernel
theorem dX6_lay_51 : decode cX6_lay 51 = .ok (.aload_n 0, 1) := by decide +kernel
theorem dX6_lay_52 : decode cX6_lay 52 = .ok (.getfield 55, 3) := by decide +kernel
theorem dX6_lay_55 : decode cX6_lay 55 = .ok (.invokevirtual 69, 3) := by decide +kernel
theorem dX6_lay_58 : decode cX6_lay 58 = .ok (.aload_n 0, 1) := by decide +kernel
theorem dX6_lay_59 : decode cX6_lay 59 = .ok (.getfield 31, 3) := by decide +kernel
theorem dX6_lay_62 : decode cX6_lay 62 = .ok (.invokevirtual 92, 3) := by decide +kernel
theorem dX6_lay_65 : decode cX6_lay 65 = .ok (.aload_n 0, 1) := by decide +kernel
theorem dX6_lay_66 : decode cX6_lay 66 = .ok (.getfield 35, 3) := by decide +kernel
theorem dX6_lay_69 : decode cX6_lay 69 = .ok (.invokevirtual 92, 3) := by decide +kernel
theorem dX6_lay_72 : decode cX6_lay 72 = .ok (.aload_n 0, 1) := by decide +kernel
theorem dX6_lay_73 : decode cX6_lay 73 = .ok (.getfield 55, 3) := by decide +kernel
theorem dX6_lay_76 : decode cX6_lay 76 = .ok (.getfield 95, 3) := by decide +kernel
theorem dX6_lay_79 : decode cX6_lay 79 = .ok (.ireturn, 1) := by decide +kernel
set_option maxRecDepth 20000 in
theorem ggX6_door_X6_isDoor : GoodIn wsX6_door wsX6_isDoor := goodIn_r _ [7, 1, 11, 12, 13, 14, 15, 16, 17, 18, 19, 20, 21, 22, 23, 24, 25, 26, 27, 28, 29, 30, 31, 32, 33, 34] (by decide +kernel) (by decide +kernel)
set_option maxRecDepth 20000 in
theorem gX6_door_X6_isDoor : GoodIn wsX6_door (wsV RX6 98 RX6 yX6_isDoor wsX6_isDoor) := goodIn_app (goodIn_of _ (by decide +kernel)) ggX6_door_X6_isDoor
set_option maxRecDepth 20000 in
theorem ggX6_door_X6_at : GoodIn wsX6_door wsX6_at := goodIn_r _ [10] (by decide +kernel) (by decide +kernel)
set_option maxRecDepth 20000 in
theorem gX6_door_X6_at : GoodIn wsX6_door (va_wsS RX6 106 yX6_at wsX6_at) := goodIn_app (goodIn_of _ (by decide +kernel)) ggX6_door_X6_at
theorem dX6_door_0 : decode cX6_door 0 = .ok (.aload_n 0, 1) := by decide +kernel
theorem dX6_door_1 : decode cX6_door 1 = .ok (.iload_n 1, 1) := by decide +kernel
theorem dX6_door_2 : decode cX6_door 2 = .ok (.invokevirtual 98, 3) := by decide +kernel
theorem dX6_door_5 : decode cX6_door 5 = .ok (.ifCond .ne 5, 3) := by decide +kernel
theorem dX6_door_8 : decode cX6_door 8 = .ok (.iconst (-1), 1) := by decide +kernel
theorem dX6_door_9 : decode cX6_door 9 = .ok (.ireturn, 1) := by decide +kernel
theorem dX6_door_10 : decode cX6_door 10 = .ok (.iload_n 2, 1) := by decide +kernel
theorem dX6_door_11 : decode cX6_door 11 = .ok (.tableswitch 93 0 4 #[33, 45, 57, 69, 81], 33) := by decide +kernel
theorem dX6_door_44 : decode cX6_door 44 = .ok (.aload_n 0, 1) := by decide +kernel
theorem dX6_door_45 : decode cX6_door 45 = .ok (.getfield 55, 3) := by decide +kernel
theorem dX6_door_48 : decode cX6_door 48 = .ok (.getfield 102, 3) := by decide +kernel
theorem dX6_door_51 : decode cX6_door 51 = .ok (.iload_n 1, 1) := by decide +kernel
theorem dX6_door_52 : decode cX6_door 52 = .ok (.invokestatic 106, 3) := by decide +kernel
theorem dX6_door_55 : decode cX6_door 55 = .ok (.ireturn, 1) := by decide +kernel
theorem dX6_door_56 : decode cX6_door 56 = .ok (.aload_n 0, 1) := by decide +kernel
theorem dX6_door_57 : decode cX6_door 57 = .ok (.getfield 55, 3) := by decide +kernel
theorem dX6_door_60 : decode cX6_door 60 = .ok (.getfield 110, 3) := by decide +kernel
theorem dX6_door_63 : decode cX6_door 63 = .ok (.iload_n 1, 1) := by decide +kernel
theorem dX6_door_64 : decode cX6_door 64 = .ok (.invokestatic 106, 3) := by decide +kernel
theorem dX6_door_67 : decode cX6_door 67 = .ok (.ireturn, 1) := by decide +kernel
theorem dX6_door_68 : decode cX6_door 68 = .ok (.aload_n 0, 1) := by decide +kernel
theorem dX6_door_69 : decode cX6_door 69 = .ok (.getfield 55, 3) := by decide +kernel
theorem dX6_door_72 : decode cX6_door 72 = .ok (.getfield 113, 3) := by decide +kernel
theorem dX6_door_75 : decode cX6_door 75 = .ok (.iload_n 1, 1) := by decide +kernel
theorem dX6_door_76 : decode cX6_door 76 = .ok (.invokestatic 106, 3) := by decide +kernel
theorem dX6_door_79 : decode cX6_door 79 = .ok (.ireturn, 1) := by decide +kernel
theorem dX6_door_80 : decode cX6_door 80 = .ok (.aload_n 0, 1) := by decide +kernel
theorem dX6_door_81 : decode cX6_door 81 = .ok (.getfield 19, 3) := by decide +kernel
theorem dX6_door_84 : decode cX6_door 84 = .ok (.getfield 116, 3) := by decide +kernel
theorem dX6_door_87 : decode cX6_door 87 = .ok (.iload_n 1, 1) := by decide +kernel
theorem dX6_door_88 : decode cX6_door 88 = .ok (.invokestatic 106, 3) := by decide +kernel
theorem dX6_door_91 : decode cX6_door 91 = .ok (.ireturn, 1) := by decide +kernel
theorem dX6_door_92 : decode cX6_door 92 = .ok (.aload_n 0, 1) := by decide +kernel
theorem dX6_door_93 : decode cX6_door 93 = .ok (.getfield 55, 3) := by decide +kernel
theorem dX6_door_96 : decode cX6_door 96 = .ok (.getfield 119, 3) := by decide +kernel
theorem dX6_door_99 : decode cX6_door 99 = .ok (.iload_n 1, 1) := by decide +kernel
theorem dX6_door_100 : decode cX6_door 100 = .ok (.invokestatic 106, 3) := by decide +kernel
theorem dX6_door_103 : decode cX6_door 103 = .ok (.ireturn, 1) := by decide +kernel
theorem dX6_door_104 : decode cX6_door 104 = .ok (.iconst (-1), 1) := by decide +kernel
theorem dX6_door_105 : decode cX6_door 105 = .ok (.ireturn, 1) := by decide +kernel
set_option maxRecDepth 20000 in
theorem ggX6_lodger_X6_isLodger : GoodIn wsX6_lodger wsX6_isLodger := goodIn_r _ [7, 2, 11, 12, 13, 14, 15, 16, 17, 18, 19, 26, 27, 28, 29, 30, 31, 32, 33, 34, 35, 36, 37, 38, 39, 40] (by decide +kernel) (by decide +kernel)
set_option maxRecDepth 20000 in
theorem gX6_lodger_X6_isLodger : GoodIn wsX6_lodger (wsV RX6 122 RX6 yX6_isLodger wsX6_isLodger) := goodIn_app (goodIn_of _ (by decide +kernel)) ggX6_lodger_X6_isLodger
set_option maxRecDepth 20000 in
theorem ggX6_lodger_X6_at : GoodIn wsX6_lodger wsX6_at := goodIn_r _ [10] (by decide +kernel) (by decide +kernel)
set_option maxRecDepth 20000 in
theorem gX6_lodger_X6_at : GoodIn wsX6_lodger (va_wsS RX6 106 yX6_at wsX6_at) := goodIn_app (goodIn_of _ (by decide +kernel)) ggX6_lodger_X6_at
theorem dX6_lodger_0 : decode cX6_lodger 0 = .ok (.aload_n 0, 1) := by decide +kernel
theorem dX6_lodger_1 : decode cX6_lodger 1 = .ok (.iload_n 1, 1) := by decide +kernel
theorem dX6_lodger_2 : decode cX6_lodger 2 = .ok (.invokevirtual 122, 3) := by decide +kernel
theorem dX6_lodger_5 : decode cX6_lodger 5 = .ok (.ifCond .ne 5, 3) := by decide +kernel
theorem dX6_lodger_8 : decode cX6_lodger 8 = .ok (.iconst (-1), 1) := by decide +kernel
theorem dX6_lodger_9 : decode cX6_lodger 9 = .ok (.ireturn, 1) := by decide +kernel
theorem dX6_lodger_10 : decode cX6_lodger 10 = .ok (.iload_n 2, 1) := by decide +kernel
theorem dX6_lodger_11 : decode cX6_lodger 11 = .ok (.tableswitch 61 0 2 #[25, 37, 49], 25) := by decide +kernel
theorem dX6_lodger_36 : decode cX6_lodger 36 = .ok (.aload_n 0, 1) := by decide +kernel
theorem dX6_lodger_37 : decode cX6_lodger 37 = .ok (.getfield 19, 3) := by decide +kernel
theorem dX6_lodger_40 : decode cX6_lodger 40 = .ok (.getfield 125, 3) := by decide +kernel
theorem dX6_lodger_43 : decode cX6_lodger 43 = .ok (.iload_n 1, 1) := by decide +kernel
theorem dX6_lodger_44 : decode cX6_lodger 44 = .ok (.invokestatic 106, 3) := by decide +kernel
theorem dX6_lodger_47 : decode cX6_lodger 47 = .ok (.ireturn, 1) := by decide +kernel
theorem dX6_lodger_48 : decode cX6_lodger 48 = .ok (.aload_n 0, 1) := by decide +kernel
theorem dX6_lodger_49 : decode cX6_lodger 49 = .ok (.getfield 55, 3) := by decide +kernel
theorem dX6_lodger_52 : decode cX6_lodger 52 = .ok (.getfield 128, 3) := by decide +kernel
theorem dX6_lodger_55 : decode cX6_lodger 55 = .ok (.iload_n 1, 1) := by decide +kernel
theorem dX6_lodger_56 : decode cX6_lodger 56 = .ok (.invokestatic 106, 3) := by decide +kernel
theorem dX6_lodger_59 : decode cX6_lodger 59 = .ok (.ireturn, 1) := by decide +kernel
theorem dX6_lodger_60 : decode cX6_lodger 60 = .ok (.aload_n 0, 1) := by decide +kernel
theorem dX6_lodger_61 : decode cX6_lodger 61 = .ok (.getfield 55, 3) := by decide +kernel
theorem dX6_lodger_64 : decode cX6_lodger 64 = .ok (.getfield 131, 3) := by decide +kernel
theorem dX6_lodger_67 : decode cX6_lodger 67 = .ok (.iload_n 1, 1) := by decide +kernel
theorem dX6_lodger_68 : decode cX6_lodger 68 = .ok (.invokestatic 106, 3) := by decide +kernel
theorem dX6_lodger_71 : decode cX6_lodger 71 = .ok (.ireturn, 1) := by decide +kernel
theorem dX6_lodger_72 : decode cX6_lodger 72 = .ok (.iconst (-1), 1) := by decide +kernel
theorem dX6_lodger_73 : decode cX6_lodger 73 = .ok (.ireturn, 1) := by decide +kernel
set_option maxRecDepth 20000 in
theorem ggX6_grudge_X6_isDoor : GoodIn wsX6_grudge wsX6_isDoor := goodIn_r _ [6, 7, 20, 21, 22, 23, 24, 25, 26, 27, 28, 29, 30, 31, 32, 33, 34, 35, 36, 37, 38, 39, 40, 41, 42, 43] (by decide +kernel) (by decide +kernel)
set_option maxRecDepth 20000 in
theorem gX6_grudge_X6_isDoor : GoodIn wsX6_grudge (wsV RX6 98 RX6 yX6_isDoor wsX6_isDoor) := goodIn_app (goodIn_of _ (by decide +kernel)) ggX6_grudge_X6_isDoor
set_option maxRecDepth 20000 in
theorem ggX6_grudge_X6_isLodger : GoodIn wsX6_grudge wsX6_isLodger := goodIn_r _ [11, 7, 20, 21, 22, 23, 24, 25, 26, 27, 28, 29, 30, 31, 32, 33, 34, 35, 36, 37, 38, 39, 40, 41, 42, 43] (by decide +kernel) (by decide +kernel)
set_option maxRecDepth 20000 in
theorem gX6_grudge_X6_isLodger : GoodIn wsX6_grudge (wsV RX6 122 RX6 yX6_isLodger wsX6_isLodger) := goodIn_app (goodIn_of _ (by decide +kernel)) ggX6_grudge_X6_isLodger
set_option maxRecDepth 20000 in
theorem ggX6_grudge_X0_grudgeOf : GoodIn wsX6_grudge wsX0_grudgeOf := goodIn_r _ [16, 17, 18, 5, 19, 44, 45, 46, 47, 48, 49] (by decide +kernel) (by decide +kernel)
set_option maxRecDepth 20000 in
theorem gX6_grudge_X0_grudgeOf : GoodIn wsX6_grudge (wsV RX6 134 RX0 yX0_grudgeOf wsX0_grudgeOf) := goodIn_app (goodIn_of _ (by decide +kernel)) ggX6_grudge_X0_grudgeOf
theorem dX6_grudge_0 : decode cX6_grudge 0 = .ok (.aload_n 0, 1) := by decide +kernel
theorem dX6_grudge_1 : decode cX6_grudge 1 = .ok (.iload_n 1, 1) := by decide +kernel
theorem dX6_grudge_2 : decode cX6_grudge 2 = .ok (.invokevirtual 98, 3) := by decide +kernel
theorem dX6_grudge_5 : decode cX6_grudge 5 = .ok (.ifCond .eq 23, 3) := by decide +kernel
theorem dX6_grudge_8 : decode cX6_grudge 8 = .ok (.aload_n 0, 1) := by decide +kernel
theorem dX6_grudge_9 : decode cX6_grudge 9 = .ok (.iload_n 2, 1) := by decide +kernel
theorem dX6_grudge_10 : decode cX6_grudge 10 = .ok (.invokevirtual 122, 3) := by decide +kernel
theorem dX6_grudge_13 : decode cX6_grudge 13 = .ok (.ifCond .eq 15, 3) := by decide +kernel
theorem dX6_grudge_16 : decode cX6_grudge 16 = .ok (.aload_n 0, 1) := by decide +kernel
theorem dX6_grudge_17 : decode cX6_grudge 17 = .ok (.getfield 19, 3) := by decide +kernel
theorem dX6_grudge_20 : decode cX6_grudge 20 = .ok (.iload_n 1, 1) := by decide +kernel
theorem dX6_grudge_21 : decode cX6_grudge 21 = .ok (.iload_n 2, 1) := by decide +kernel
theorem dX6_grudge_22 : decode cX6_grudge 22 = .ok (.invokevirtual 134, 3) := by decide +kernel
theorem dX6_grudge_25 : decode cX6_grudge 25 = .ok (.goto 4, 3) := by decide +kernel
theorem dX6_grudge_28 : decode cX6_grudge 28 = .ok (.iconst (-1), 1) := by decide +kernel
theorem dX6_grudge_29 : decode cX6_grudge 29 = .ok (.ireturn, 1) := by decide +kernel
set_option maxRecDepth 20000 in
theorem ggX6_go_X6_isLodger : GoodIn wsX6_go wsX6_isLodger := goodIn_r _ [8, 1, 90, 91, 92, 93, 94, 95, 96, 97, 98, 105, 106, 107, 108, 109, 110, 111, 112, 113, 114, 115, 116, 117, 118, 119] (by decide +kernel) (by decide +kernel)
set_option maxRecDepth 20000 in
theorem gX6_go_X6_isLodger : GoodIn wsX6_go (wsV RX6 122 RX6 yX6_isLodger wsX6_isLodger) := goodIn_app (goodIn_of _ (by decide +kernel)) ggX6_go_X6_isLodger
set_option maxRecDepth 20000 in
theorem ggX6_go_X6_isDoor : GoodIn wsX6_go wsX6_isDoor := goodIn_r _ [12, 1, 90, 91, 92, 93, 94, 95, 96, 97, 98, 105, 106, 107, 108, 109, 110, 111, 112, 113, 114, 115, 116, 117, 118, 119] (by decide +kernel) (by decide +kernel)
set_option maxRecDepth 20000 in
theorem gX6_go_X6_isDoor : GoodIn wsX6_go (wsV RX6 98 RX6 yX6_isDoor wsX6_isDoor) := goodIn_app (goodIn_of _ (by decide +kernel)) ggX6_go_X6_isDoor
set_option maxRecDepth 20000 in
theorem ggX6_go_X6_at : GoodIn wsX6_go wsX6_at := goodIn_r _ [15] (by decide +kernel) (by decide +kernel)
set_option maxRecDepth 20000 in
theorem gX6_go_X6_at : GoodIn wsX6_go (va_wsS RX6 106 yX6_at wsX6_at) := goodIn_app (goodIn_of _ (by decide +kernel)) ggX6_go_X6_at
set_option maxRecDepth 20000 in
theorem ggX6_go_X2_otherSide : GoodIn wsX6_go wsX2_otherSide := goodIn_r _ [20, 21, 22, 14, 7, 15, 105, 106, 107, 108, 109, 110, 111, 112, 113, 114, 115, 116, 117, 118, 119] (by decide +kernel) (by decide +kernel)
set_option maxRecDepth 20000 in
theorem gX6_go_X2_otherSide : GoodIn wsX6_go (wsV RX6 138 RX2 yX2_otherSide wsX2_otherSide) := goodIn_app (goodIn_of _ (by decide +kernel)) ggX6_go_X2_otherSide
set_option maxRecDepth 20000 in
theorem ggX6_go_X1_push : GoodIn wsX6_go wsX1_push := goodIn_r _ [27, 28, 29, 30, 31, 32, 26, 33, 34, 35, 36, 37, 38, 39, 40, 41, 42, 43, 44, 45, 46, 47, 48, 7, 49, 120, 121, 99, 100, 101, 102, 103, 104] (by decide +kernel) (by decide +kernel)
set_option maxRecDepth 20000 in
theorem gX6_go_X1_push : GoodIn wsX6_go (wsV RX6 141 RX1 yX1_push wsX1_push) := goodIn_app (goodIn_of _ (by decide +kernel)) ggX6_go_X1_push
set_option maxRecDepth 20000 in
theorem ggX6_go_X0_passThrough : GoodIn wsX6_go wsX0_passThrough := goodIn_r _ [53, 46, 45, 54, 55, 56, 41, 57, 58, 59, 60, 61, 44, 14, 7, 15, 62, 63, 64, 65, 43, 66, 17, 18, 19, 20, 21, 22, 67, 68, 69, 70, 71, 72, 73, 74, 75, 76, 77, 78, 79, 80, 81, 82, 83, 84, 85, 86, 87, 88, 89, 99, 100, 101, 102, 103, 104, 105, 106, 107, 108, 109, 110, 111, 112, 113, 114, 115, 116, 117, 118, 119] (by decide +kernel) (by decide +kernel)
set_option maxRecDepth 20000 in
theorem gX6_go_X0_passThrough : GoodIn wsX6_go (wsV RX6 145 RX0 yX0_passThrough wsX0_passThrough) := goodIn_app (goodIn_of _ (by decide +kernel)) ggX6_go_X0_passThrough
theorem dX6_go_0 : decode cX6_go 0 = .ok (.aload_n 0, 1) := by decide +kernel
theorem dX6_go_1 : decode cX6_go 1 = .ok (.iload_n 1, 1) := by decide +kernel
theorem dX6_go_2 : decode cX6_go 2 = .ok (.invokevirtual 122, 3) := by decide +kernel
theorem dX6_go_5 : decode cX6_go 5 = .ok (.ifCond .eq 11, 3) := by decide +kernel
theorem dX6_go_8 : decode cX6_go 8 = .ok (.aload_n 0, 1) := by decide +kernel
theorem dX6_go_9 : decode cX6_go 9 = .ok (.iload_n 2, 1) := by decide +kernel
theorem dX6_go_10 : decode cX6_go 10 = .ok (.invokevirtual 98, 3) := by decide +kernel
theorem dX6_go_13 : decode cX6_go 13 = .ok (.ifCond .ne 5, 3) := by decide +kernel
theorem dX6_go_16 : decode cX6_go 16 = .ok (.iconst (-1), 1) := by decide +kernel
theorem dX6_go_17 : decode cX6_go 17 = .ok (.ireturn, 1) := by decide +kernel
theorem dX6_go_18 : decode cX6_go 18 = .ok (.aload_n 0, 1) := by decide +kernel
theorem dX6_go_19 : decode cX6_go 19 = .ok (.getfield 55, 3) := by decide +kernel
theorem dX6_go_22 : decode cX6_go 22 = .ok (.iload_n 2, 1) := by decide +kernel
theorem dX6_go_23 : decode cX6_go 23 = .ok (.aload_n 0, 1) := by decide +kernel
theorem dX6_go_24 : decode cX6_go 24 = .ok (.getfield 19, 3) := by decide +kernel
theorem dX6_go_27 : decode cX6_go 27 = .ok (.getfield 125, 3) := by decide +kernel
theorem dX6_go_30 : decode cX6_go 30 = .ok (.iload_n 1, 1) := by decide +kernel
theorem dX6_go_31 : decode cX6_go 31 = .ok (.invokestatic 106, 3) := by decide +kernel
theorem dX6_go_34 : decode cX6_go 34 = .ok (.invokevirtual 138, 3) := by decide +kernel
theorem dX6_go_37 : decode cX6_go 37 = .ok (.ifCond .ge 6, 3) := by decide +kernel
theorem dX6_go_40 : decode cX6_go 40 = .ok (.bipush (-2), 2) := by decide +kernel
theorem dX6_go_42 : decode cX6_go 42 = .ok (.ireturn, 1) := by decide +kernel
theorem dX6_go_43 : decode cX6_go 43 = .ok (.aload_n 0, 1) := by decide +kernel
theorem dX6_go_44 : decode cX6_go 44 = .ok (.getfield 31, 3) := by decide +kernel
theorem dX6_go_47 : decode cX6_go 47 = .ok (.aload_n 0, 1) := by decide +kernel
theorem dX6_go_48 : decode cX6_go 48 = .ok (.getfield 19, 3) := by decide +kernel
theorem dX6_go_51 : decode cX6_go 51 = .ok (.invokevirtual 141, 3) := by decide +kernel
theorem dX6_go_54 : decode cX6_go 54 = .ok (.aload_n 0, 1) := by decide +kernel
theorem dX6_go_55 : decode cX6_go 55 = .ok (.getfield 19, 3) := by decide +kernel
theorem dX6_go_58 : decode cX6_go 58 = .ok (.aload_n 0, 1) := by decide +kernel
theorem dX6_go_59 : decode cX6_go 59 = .ok (.getfield 55, 3) := by decide +kernel
theorem dX6_go_62 : decode cX6_go 62 = .ok (.iload_n 1, 1) := by decide +kernel
theorem dX6_go_63 : decode cX6_go 63 = .ok (.iload_n 2, 1) := by decide +kernel
theorem dX6_go_64 : decode cX6_go 64 = .ok (.iload_n 3, 1) := by decide +kernel
theorem dX6_go_65 : decode cX6_go 65 = .ok (.invokevirtual 145, 3) := by decide +kernel
theorem dX6_go_68 : decode cX6_go 68 = .ok (.ireturn, 1) := by decide +kernel
set_option maxRecDepth 20000 in
theorem ggX6_oil_X6_isDoor : GoodIn wsX6_oil wsX6_isDoor := goodIn_r _ [8, 3, 49, 50, 51, 52, 53, 54, 55, 56, 57, 64, 65, 66, 67, 68, 69, 70, 71, 72, 73, 74, 75, 76, 77, 78] (by decide +kernel) (by decide +kernel)
set_option maxRecDepth 20000 in
theorem gX6_oil_X6_isDoor : GoodIn wsX6_oil (wsV RX6 98 RX6 yX6_isDoor wsX6_isDoor) := goodIn_app (goodIn_of _ (by decide +kernel)) ggX6_oil_X6_isDoor
set_option maxRecDepth 20000 in
theorem ggX6_oil_X1_push : GoodIn wsX6_oil wsX1_push := goodIn_r _ [13, 14, 15, 16, 17, 18, 12, 19, 20, 21, 22, 23, 24, 25, 26, 27, 28, 29, 30, 31, 32, 33, 34, 7, 35, 79, 80, 58, 59, 60, 61, 62, 63] (by decide +kernel) (by decide +kernel)
set_option maxRecDepth 20000 in
theorem gX6_oil_X1_push : GoodIn wsX6_oil (wsV RX6 141 RX1 yX1_push wsX1_push) := goodIn_app (goodIn_of _ (by decide +kernel)) ggX6_oil_X1_push
set_option maxRecDepth 20000 in
theorem ggX6_oil_X6_put : GoodIn wsX6_oil wsX6_put := goodIn_r _ [38] (by decide +kernel) (by decide +kernel)
set_option maxRecDepth 20000 in
theorem gX6_oil_X6_put : GoodIn wsX6_oil (va_wsS RX6 152 yX6_put wsX6_put) := goodIn_app (goodIn_of _ (by decide +kernel)) ggX6_oil_X6_put
set_option maxRecDepth 20000 in
theorem ggX6_oil_X0_oiledDoors : GoodIn wsX6_oil wsX0_oiledDoors := goodIn_r _ [42, 43, 44, 45, 27, 46, 30, 47, 7, 48, 58, 59, 60, 61, 62, 63] (by decide +kernel) (by decide +kernel)
set_option maxRecDepth 20000 in
theorem gX6_oil_X0_oiledDoors : GoodIn wsX6_oil (wsV RX6 156 RX0 yX0_oiledDoors wsX0_oiledDoors) := goodIn_app (goodIn_of _ (by decide +kernel)) ggX6_oil_X0_oiledDoors
theorem dX6_oil_0 : decode cX6_oil 0 = .ok (.aload_n 0, 1) := by decide +kernel
theorem dX6_oil_1 : decode cX6_oil 1 = .ok (.iload_n 1, 1) := by decide +kernel
theorem dX6_oil_2 : decode cX6_oil 2 = .ok (.invokevirtual 98, 3) := by decide +kernel
theorem dX6_oil_5 : decode cX6_oil 5 = .ok (.ifCond .ne 5, 3) := by decide +kernel
theorem dX6_oil_8 : decode cX6_oil 8 = .ok (.iconst (-1), 1) := by decide +kernel
theorem dX6_oil_9 : decode cX6_oil 9 = .ok (.ireturn, 1) := by decide +kernel
theorem dX6_oil_10 : decode cX6_oil 10 = .ok (.aload_n 0, 1) := by decide +kernel
theorem dX6_oil_11 : decode cX6_oil 11 = .ok (.getfield 31, 3) := by decide +kernel
theorem dX6_oil_14 : decode cX6_oil 14 = .ok (.aload_n 0, 1) := by decide +kernel
theorem dX6_oil_15 : decode cX6_oil 15 = .ok (.getfield 19, 3) := by decide +kernel
theorem dX6_oil_18 : decode cX6_oil 18 = .ok (.invokevirtual 141, 3) := by decide +kernel
theorem dX6_oil_21 : decode cX6_oil 21 = .ok (.aload_n 0, 1) := by decide +kernel
theorem dX6_oil_22 : decode cX6_oil 22 = .ok (.getfield 19, 3) := by decide +kernel
theorem dX6_oil_25 : decode cX6_oil 25 = .ok (.getfield 116, 3) := by decide +kernel
theorem dX6_oil_28 : decode cX6_oil 28 = .ok (.iload_n 1, 1) := by decide +kernel
theorem dX6_oil_29 : decode cX6_oil 29 = .ok (.aload_n 0, 1) := by decide +kernel
theorem dX6_oil_30 : decode cX6_oil 30 = .ok (.getfield 55, 3) := by decide +kernel
theorem dX6_oil_33 : decode cX6_oil 33 = .ok (.getfield 149, 3) := by decide +kernel
theorem dX6_oil_36 : decode cX6_oil 36 = .ok (.invokestatic 152, 3) := by decide +kernel
theorem dX6_oil_39 : decode cX6_oil 39 = .ok (.aload_n 0, 1) := by decide +kernel
theorem dX6_oil_40 : decode cX6_oil 40 = .ok (.getfield 19, 3) := by decide +kernel
theorem dX6_oil_43 : decode cX6_oil 43 = .ok (.invokevirtual 156, 3) := by decide +kernel
theorem dX6_oil_46 : decode cX6_oil 46 = .ok (.ireturn, 1) := by decide +kernel
set_option maxRecDepth 20000 in
theorem ggX6_night_X6_within : GoodIn wsX6_night wsX6_within := goodIn_r _ [7] (by decide +kernel) (by decide +kernel)
set_option maxRecDepth 20000 in
theorem gX6_night_X6_within : GoodIn wsX6_night (va_wsS RX6 73 yX6_within wsX6_within) := goodIn_app (goodIn_of _ (by decide +kernel)) ggX6_night_X6_within
set_option maxRecDepth 20000 in
theorem ggX6_night_X1_push : GoodIn wsX6_night wsX1_push := goodIn_r _ [12, 13, 14, 15, 16, 17, 11, 18, 19, 20, 21, 22, 23, 24, 25, 26, 27, 28, 29, 30, 31, 32, 33, 6, 34, 93, 94, 87, 88, 89, 90, 91, 92] (by decide +kernel) (by decide +kernel)
set_option maxRecDepth 20000 in
theorem gX6_night_X1_push : GoodIn wsX6_night (wsV RX6 141 RX1 yX1_push wsX1_push) := goodIn_app (goodIn_of _ (by decide +kernel)) ggX6_night_X1_push
set_option maxRecDepth 20000 in
theorem ggX6_night_X0_sleep : GoodIn wsX6_night wsX0_sleep := goodIn_r _ [38, 32, 39, 40, 41, 26, 42, 43, 44, 6, 45, 46, 47, 48, 49, 50, 51, 29, 52, 53, 54, 55, 28, 56, 57, 58, 59, 60, 61, 62, 63, 64, 65, 66, 67, 68, 69, 70, 71, 72, 73, 74, 75, 76, 77, 95, 96, 97, 98, 99, 100, 101, 102, 103, 104, 105, 106, 107, 108, 109, 87, 88, 89, 90, 91, 92] (by decide +kernel) (by decide +kernel)
set_option maxRecDepth 20000 in
theorem gX6_night_X0_sleep : GoodIn wsX6_night (wsV RX6 163 RX0 yX0_sleep wsX0_sleep) := goodIn_app (goodIn_of _ (by decide +kernel)) ggX6_night_X0_sleep
theorem dX6_night_0 : decode cX6_night 0 = .ok (.iload_n 1, 1) := by decide +kernel
theorem dX6_night_1 : decode cX6_night 1 = .ok (.iconst 1, 1) := by decide +kernel
theorem dX6_night_2 : decode cX6_night 2 = .ok (.bipush 60, 2) := by decide +kernel
theorem dX6_night_4 : decode cX6_night 4 = .ok (.invokestatic 73, 3) := by decide +kernel
theorem dX6_night_7 : decode cX6_night 7 = .ok (.ifCond .ne 5, 3) := by decide +kernel
theorem dX6_night_10 : decode cX6_night 10 = .ok (.iconst (-1), 1) := by decide +kernel
theorem dX6_night_11 : decode cX6_night 11 = .ok (.ireturn, 1) := by decide +kernel
theorem dX6_night_12 : decode cX6_night 12 = .ok (.aload_n 0, 1) := by decide +kernel
theorem dX6_night_13 : decode cX6_night 13 = .ok (.getfield 19, 3) := by decide +kernel
theorem dX6_night_16 : decode cX6_night 16 = .ok (.getfield 160, 3) := by decide +kernel
theorem dX6_night_19 : decode cX6_night 19 = .ok (.iload_n 1, 1) := by decide +kernel
theorem dX6_night_20 : decode cX6_night 20 = .ok (.iadd, 1) := by decide +kernel
theorem dX6_night_21 : decode cX6_night 21 = .ok (.sipush 9999, 3) := by decide +kernel
theorem dX6_night_24 : decode cX6_night 24 = .ok (.if_icmp .le 6, 3) := by decide +kernel
theorem dX6_night_27 : decode cX6_night 27 = .ok (.bipush (-2), 2) := by decide +kernel
theorem dX6_night_29 : decode cX6_night 29 = .ok (.ireturn, 1) := by decide +kernel
theorem dX6_night_30 : decode cX6_night 30 = .ok (.aload_n 0, 1) := by decide +kernel
theorem dX6_night_31 : decode cX6_night 31 = .ok (.getfield 31, 3) := by decide +kernel
theorem dX6_night_34 : decode cX6_night 34 = .ok (.aload_n 0, 1) := by decide +kernel
theorem dX6_night_35 : decode cX6_night 35 = .ok (.getfield 19, 3) := by decide +kernel
theorem dX6_night_38 : decode cX6_night 38 = .ok (.invokevirtual 141, 3) := by decide +kernel
theorem dX6_night_41 : decode cX6_night 41 = .ok (.iconst 0, 1) := by decide +kernel
theorem dX6_night_42 : decode cX6_night 42 = .ok (.istore_n 2, 1) := by decide +kernel
theorem dX6_night_43 : decode cX6_night 43 = .ok (.iload_n 2, 1) := by decide +kernel
theorem dX6_night_44 : decode cX6_night 44 = .ok (.iload_n 1, 1) := by decide +kernel
theorem dX6_night_45 : decode cX6_night 45 = .ok (.if_icmp .ge 20, 3) := by decide +kernel
theorem dX6_night_48 : decode cX6_night 48 = .ok (.aload_n 0, 1) := by decide +kernel
theorem dX6_night_49 : decode cX6_night 49 = .ok (.getfield 19, 3) := by decide +kernel
theorem dX6_night_52 : decode cX6_night 52 = .ok (.aload_n 0, 1) := by decide +kernel
theorem dX6_night_53 : decode cX6_night 53 = .ok (.getfield 55, 3) := by decide +kernel
theorem dX6_night_56 : decode cX6_night 56 = .ok (.invokevirtual 163, 3) := by decide +kernel
theorem dX6_night_59 : decode cX6_night 59 = .ok (.iinc 2 1, 3) := by decide +kernel
theorem dX6_night_62 : decode cX6_night 62 = .ok (.goto (-19), 3) := by decide +kernel
theorem dX6_night_65 : decode cX6_night 65 = .ok (.aload_n 0, 1) := by decide +kernel
theorem dX6_night_66 : decode cX6_night 66 = .ok (.getfield 19, 3) := by decide +kernel
theorem dX6_night_69 : decode cX6_night 69 = .ok (.getfield 160, 3) := by decide +kernel
theorem dX6_night_72 : decode cX6_night 72 = .ok (.ireturn, 1) := by decide +kernel
set_option maxRecDepth 20000 in
theorem ggX6_undo_X1_pop : GoodIn wsX6_undo wsX1_pop := goodIn_r _ [7, 8, 9, 10, 11, 6, 12, 13, 14, 15, 16, 17, 18, 19, 20, 21, 22, 23, 24, 25, 26, 36, 37, 38, 39, 40, 41, 42, 43] (by decide +kernel) (by decide +kernel)
set_option maxRecDepth 20000 in
theorem gX6_undo_X1_pop : GoodIn wsX6_undo (wsV RX6 166 RX1 yX1_pop wsX1_pop) := goodIn_app (goodIn_of _ (by decide +kernel)) ggX6_undo_X1_pop
theorem dX6_undo_0 : decode cX6_undo 0 = .ok (.aload_n 0, 1) := by decide +kernel
theorem dX6_undo_1 : decode cX6_undo 1 = .ok (.getfield 31, 3) := by decide +kernel
theorem dX6_undo_4 : decode cX6_undo 4 = .ok (.aload_n 0, 1) := by decide +kernel
theorem dX6_undo_5 : decode cX6_undo 5 = .ok (.getfield 19, 3) := by decide +kernel
theorem dX6_undo_8 : decode cX6_undo 8 = .ok (.invokevirtual 166, 3) := by decide +kernel
theorem dX6_undo_11 : decode cX6_undo 11 = .ok (.ifCond .eq 13, 3) := by decide +kernel
theorem dX6_undo_14 : decode cX6_undo 14 = .ok (.aload_n 0, 1) := by decide +kernel
theorem dX6_undo_15 : decode cX6_undo 15 = .ok (.getfield 31, 3) := by decide +kernel
theorem dX6_undo_18 : decode cX6_undo 18 = .ok (.getfield 170, 3) := by decide +kernel
theorem dX6_undo_21 : decode cX6_undo 21 = .ok (.goto 5, 3) := by decide +kernel
theorem dX6_undo_24 : decode cX6_undo 24 = .ok (.bipush (-2), 2) := by decide +kernel
theorem dX6_undo_26 : decode cX6_undo 26 = .ok (.ireturn, 1) := by decide +kernel
set_option maxRecDepth 20000 in
theorem ggX6_way_X6_isLodger : GoodIn wsX6_way wsX6_isLodger := goodIn_r _ [8, 2, 52, 53, 54, 55, 56, 57, 58, 59, 60, 61, 62, 63, 64, 65, 66, 67, 68, 69, 70, 71, 72, 73, 74, 75] (by decide +kernel) (by decide +kernel)
set_option maxRecDepth 20000 in
theorem gX6_way_X6_isLodger : GoodIn wsX6_way (wsV RX6 122 RX6 yX6_isLodger wsX6_isLodger) := goodIn_app (goodIn_of _ (by decide +kernel)) ggX6_way_X6_isLodger
set_option maxRecDepth 20000 in
theorem ggX6_way_X6_isRoom : GoodIn wsX6_way wsX6_isRoom := goodIn_r _ [12, 2, 52, 53, 54, 55, 56, 57, 58, 59, 60, 61, 62, 63, 64, 65, 66, 67, 68, 69, 70, 71, 72, 73, 74, 75] (by decide +kernel) (by decide +kernel)
set_option maxRecDepth 20000 in
theorem gX6_way_X6_isRoom : GoodIn wsX6_way (wsV RX6 173 RX6 yX6_isRoom wsX6_isRoom) := goodIn_app (goodIn_of _ (by decide +kernel)) ggX6_way_X6_isRoom
set_option maxRecDepth 20000 in
theorem ggX6_way_X5_measure : GoodIn wsX6_way wsX5_measure := goodIn_r _ [17, 18, 19, 20, 21, 7, 22, 23, 24, 25, 26, 27, 28, 29, 30, 31, 32, 33, 34, 35, 36, 37, 38, 39, 40, 41, 42, 43, 44, 45, 46, 16, 47, 61, 62, 63, 64, 65, 66, 67, 68, 69, 70, 71, 72, 73, 74, 75, 76, 77, 78, 79, 80, 81, 82, 83] (by decide +kernel) (by decide +kernel)
set_option maxRecDepth 20000 in
theorem gX6_way_X5_measure : GoodIn wsX6_way (wsV RX6 176 RX5 yX5_measure wsX5_measure) := goodIn_app (goodIn_of _ (by decide +kernel)) ggX6_way_X5_measure
set_option maxRecDepth 20000 in
theorem ggX6_way_X5_minutesFrom : GoodIn wsX6_way wsX5_minutesFrom := goodIn_r _ [51, 19, 20, 33, 7, 34, 76, 77] (by decide +kernel) (by decide +kernel)
set_option maxRecDepth 20000 in
theorem gX6_way_X5_minutesFrom : GoodIn wsX6_way (wsV RX6 180 RX5 yX5_minutesFrom wsX5_minutesFrom) := goodIn_app (goodIn_of _ (by decide +kernel)) ggX6_way_X5_minutesFrom
theorem dX6_way_0 : decode cX6_way 0 = .ok (.aload_n 0, 1) := by decide +kernel
theorem dX6_way_1 : decode cX6_way 1 = .ok (.iload_n 1, 1) := by decide +kernel
theorem dX6_way_2 : decode cX6_way 2 = .ok (.invokevirtual 122, 3) := by decide +kernel
theorem dX6_way_5 : decode cX6_way 5 = .ok (.ifCond .eq 19, 3) := by decide +kernel
theorem dX6_way_8 : decode cX6_way 8 = .ok (.aload_n 0, 1) := by decide +kernel
theorem dX6_way_9 : decode cX6_way 9 = .ok (.iload_n 2, 1) := by decide +kernel
theorem dX6_way_10 : decode cX6_way 10 = .ok (.invokevirtual 173, 3) := by decide +kernel
theorem dX6_way_13 : decode cX6_way 13 = .ok (.ifCond .eq 11, 3) := by decide +kernel
theorem dX6_way_16 : decode cX6_way 16 = .ok (.aload_n 0, 1) := by decide +kernel
theorem dX6_way_17 : decode cX6_way 17 = .ok (.iload_n 3, 1) := by decide +kernel
theorem dX6_way_18 : decode cX6_way 18 = .ok (.invokevirtual 173, 3) := by decide +kernel
theorem dX6_way_21 : decode cX6_way 21 = .ok (.ifCond .ne 5, 3) := by decide +kernel
theorem dX6_way_24 : decode cX6_way 24 = .ok (.iconst (-1), 1) := by decide +kernel
theorem dX6_way_25 : decode cX6_way 25 = .ok (.ireturn, 1) := by decide +kernel
theorem dX6_way_26 : decode cX6_way 26 = .ok (.aload_n 0, 1) := by decide +kernel
theorem dX6_way_27 : decode cX6_way 27 = .ok (.getfield 41, 3) := by decide +kernel
theorem dX6_way_30 : decode cX6_way 30 = .ok (.aload_n 0, 1) := by decide +kernel
theorem dX6_way_31 : decode cX6_way 31 = .ok (.getfield 55, 3) := by decide +kernel
theorem dX6_way_34 : decode cX6_way 34 = .ok (.aload_n 0, 1) := by decide +kernel
theorem dX6_way_35 : decode cX6_way 35 = .ok (.getfield 19, 3) := by decide +kernel
theorem dX6_way_38 : decode cX6_way 38 = .ok (.iload_n 1, 1) := by decide +kernel
theorem dX6_way_39 : decode cX6_way 39 = .ok (.iload_n 3, 1) := by decide +kernel
theorem dX6_way_40 : decode cX6_way 40 = .ok (.iconst 0, 1) := by decide +kernel
theorem dX6_way_41 : decode cX6_way 41 = .ok (.invokevirtual 176, 3) := by decide +kernel
theorem dX6_way_44 : decode cX6_way 44 = .ok (.aload_n 0, 1) := by decide +kernel
theorem dX6_way_45 : decode cX6_way 45 = .ok (.getfield 41, 3) := by decide +kernel
theorem dX6_way_48 : decode cX6_way 48 = .ok (.iload_n 2, 1) := by decide +kernel
theorem dX6_way_49 : decode cX6_way 49 = .ok (.invokevirtual 180, 3) := by decide +kernel
theorem dX6_way_52 : decode cX6_way 52 = .ok (.ireturn, 1) := by decide +kernel
set_option maxRecDepth 20000 in
theorem ggX6_first_X6_isLodger : GoodIn wsX6_first wsX6_isLodger := goodIn_r _ [8, 2, 63, 64, 65, 66, 67, 68, 69, 70, 71, 72, 73, 74, 75, 76, 77, 78, 79, 80, 81, 82, 83, 84, 85, 86] (by decide +kernel) (by decide +kernel)
set_option maxRecDepth 20000 in
theorem gX6_first_X6_isLodger : GoodIn wsX6_first (wsV RX6 122 RX6 yX6_isLodger wsX6_isLodger) := goodIn_app (goodIn_of _ (by decide +kernel)) ggX6_first_X6_isLodger
set_option maxRecDepth 20000 in
theorem ggX6_first_X6_isRoom : GoodIn wsX6_first wsX6_isRoom := goodIn_r _ [12, 2, 63, 64, 65, 66, 67, 68, 69, 70, 71, 72, 73, 74, 75, 76, 77, 78, 79, 80, 81, 82, 83, 84, 85, 86] (by decide +kernel) (by decide +kernel)
set_option maxRecDepth 20000 in
theorem gX6_first_X6_isRoom : GoodIn wsX6_first (wsV RX6 173 RX6 yX6_isRoom wsX6_isRoom) := goodIn_app (goodIn_of _ (by decide +kernel)) ggX6_first_X6_isRoom
set_option maxRecDepth 20000 in
theorem ggX6_first_X5_measure : GoodIn wsX6_first wsX5_measure := goodIn_r _ [17, 18, 19, 20, 21, 7, 22, 23, 24, 25, 26, 27, 28, 29, 30, 31, 32, 33, 34, 35, 36, 37, 38, 39, 40, 41, 42, 43, 44, 45, 46, 16, 47, 72, 73, 74, 75, 76, 77, 78, 79, 80, 81, 82, 83, 84, 85, 86, 87, 88, 89, 90, 91, 92, 93, 94] (by decide +kernel) (by decide +kernel)
set_option maxRecDepth 20000 in
theorem gX6_first_X5_measure : GoodIn wsX6_first (wsV RX6 176 RX5 yX5_measure wsX5_measure) := goodIn_app (goodIn_of _ (by decide +kernel)) ggX6_first_X5_measure
set_option maxRecDepth 20000 in
theorem ggX6_first_X5_lowestDoorFrom : GoodIn wsX6_first wsX5_lowestDoorFrom := goodIn_r _ [51, 18, 19, 52, 53, 54, 16, 55, 20, 33, 7, 34, 56, 57, 58, 59, 60, 61, 62, 72, 73, 74, 75, 76, 77, 78, 79, 80, 81, 82, 83, 84, 85, 86, 87, 88] (by decide +kernel) (by decide +kernel)
set_option maxRecDepth 20000 in
theorem gX6_first_X5_lowestDoorFrom : GoodIn wsX6_first (wsV RX6 184 RX5 yX5_lowestDoorFrom wsX5_lowestDoorFrom) := goodIn_app (goodIn_of _ (by decide +kernel)) ggX6_first_X5_lowestDoorFrom
theorem dX6_first_0 : decode cX6_first 0 = .ok (.aload_n 0, 1) := by decide +kernel
theorem dX6_first_1 : decode cX6_first 1 = .ok (.iload_n 1, 1) := by decide +kernel
theorem dX6_first_2 : decode cX6_first 2 = .ok (.invokevirtual 122, 3) := by decide +kernel
theorem dX6_first_5 : decode cX6_first 5 = .ok (.ifCond .eq 19, 3) := by decide +kernel
theorem dX6_first_8 : decode cX6_first 8 = .ok (.aload_n 0, 1) := by decide +kernel
theorem dX6_first_9 : decode cX6_first 9 = .ok (.iload_n 2, 1) := by decide +kernel
theorem dX6_first_10 : decode cX6_first 10 = .ok (.invokevirtual 173, 3) := by decide +kernel
theorem dX6_first_13 : decode cX6_first 13 = .ok (.ifCond .eq 11, 3) := by decide +kernel
theorem dX6_first_16 : decode cX6_first 16 = .ok (.aload_n 0, 1) := by decide +kernel
theorem dX6_first_17 : decode cX6_first 17 = .ok (.iload_n 3, 1) := by decide +kernel
theorem dX6_first_18 : decode cX6_first 18 = .ok (.invokevirtual 173, 3) := by decide +kernel
theorem dX6_first_21 : decode cX6_first 21 = .ok (.ifCond .ne 5, 3) := by decide +kernel
theorem dX6_first_24 : decode cX6_first 24 = .ok (.iconst (-1), 1) := by decide +kernel
theorem dX6_first_25 : decode cX6_first 25 = .ok (.ireturn, 1) := by decide +kernel
theorem dX6_first_26 : decode cX6_first 26 = .ok (.aload_n 0, 1) := by decide +kernel
theorem dX6_first_27 : decode cX6_first 27 = .ok (.getfield 41, 3) := by decide +kernel
theorem dX6_first_30 : decode cX6_first 30 = .ok (.aload_n 0, 1) := by decide +kernel
theorem dX6_first_31 : decode cX6_first 31 = .ok (.getfield 55, 3) := by decide +kernel
theorem dX6_first_34 : decode cX6_first 34 = .ok (.aload_n 0, 1) := by decide +kernel
theorem dX6_first_35 : decode cX6_first 35 = .ok (.getfield 19, 3) := by decide +kernel
theorem dX6_first_38 : decode cX6_first 38 = .ok (.iload_n 1, 1) := by decide +kernel
theorem dX6_first_39 : decode cX6_first 39 = .ok (.iload_n 3, 1) := by decide +kernel
theorem dX6_first_40 : decode cX6_first 40 = .ok (.iconst 0, 1) := by decide +kernel
theorem dX6_first_41 : decode cX6_first 41 = .ok (.invokevirtual 176, 3) := by decide +kernel
theorem dX6_first_44 : decode cX6_first 44 = .ok (.aload_n 0, 1) := by decide +kernel
theorem dX6_first_45 : decode cX6_first 45 = .ok (.getfield 41, 3) := by decide +kernel
theorem dX6_first_48 : decode cX6_first 48 = .ok (.aload_n 0, 1) := by decide +kernel
theorem dX6_first_49 : decode cX6_first 49 = .ok (.getfield 55, 3) := by decide +kernel
theorem dX6_first_52 : decode cX6_first 52 = .ok (.iload_n 2, 1) := by decide +kernel
theorem dX6_first_53 : decode cX6_first 53 = .ok (.invokevirtual 184, 3) := by decide +kernel
theorem dX6_first_56 : decode cX6_first 56 = .ok (.ireturn, 1) := by decide +kernel
set_option maxRecDepth 20000 in
theorem ggX6_inTime_X6_isLodger : GoodIn wsX6_inTime wsX6_isLodger := goodIn_r _ [6, 1, 63, 64, 65, 66, 67, 68, 69, 70, 71, 72, 73, 74, 75, 76, 77, 78, 79, 80, 81, 82, 83, 84, 85, 86] (by decide +kernel) (by decide +kernel)
set_option maxRecDepth 20000 in
theorem gX6_inTime_X6_isLodger : GoodIn wsX6_inTime (wsV RX6 122 RX6 yX6_isLodger wsX6_isLodger) := goodIn_app (goodIn_of _ (by decide +kernel)) ggX6_inTime_X6_isLodger
set_option maxRecDepth 20000 in
theorem ggX6_inTime_X6_within : GoodIn wsX6_inTime wsX6_within := goodIn_r _ [9] (by decide +kernel) (by decide +kernel)
set_option maxRecDepth 20000 in
theorem gX6_inTime_X6_within : GoodIn wsX6_inTime (va_wsS RX6 73 yX6_within wsX6_within) := goodIn_app (goodIn_of _ (by decide +kernel)) ggX6_inTime_X6_within
set_option maxRecDepth 20000 in
theorem ggX6_inTime_J6_bitCount_0f7a4 : GoodIn wsX6_inTime wsJ6_bitCount_0f7a4 := goodIn_r _ [13, 14, 15, 16] (by decide +kernel) (by decide +kernel)
set_option maxRecDepth 20000 in
theorem gX6_inTime_J6_bitCount_0f7a4 : GoodIn wsX6_inTime (va_wsS RX6 188 yJ6_bitCount_0f7a4 wsJ6_bitCount_0f7a4) := goodIn_app (goodIn_of _ (by decide +kernel)) ggX6_inTime_J6_bitCount_0f7a4
set_option maxRecDepth 20000 in
theorem ggX6_inTime_X6_isInTimeWith : GoodIn wsX6_inTime wsX6_isInTimeWith := goodIn_r _ [20, 21, 1, 22, 23, 24, 5, 25, 26, 27, 28, 29, 30, 31, 32, 33, 34, 35, 36, 37, 38, 39, 40, 41, 42, 43, 44, 45, 46, 47, 48, 49, 50, 51, 52, 53, 54, 55, 56, 57, 58, 59, 60, 61, 62, 63, 64, 65, 66, 67, 68, 69, 70, 71, 72, 73, 74, 75, 76, 77, 78, 79, 80, 81, 82, 83, 84, 85, 86, 87, 88, 89, 90, 91, 92, 93, 94] (by decide +kernel) (by decide +kernel)
set_option maxRecDepth 20000 in
theorem gX6_inTime_X6_isInTimeWith : GoodIn wsX6_inTime (wsV RX6 193 RX6 yX6_isInTimeWith wsX6_isInTimeWith) := goodIn_app (goodIn_of _ (by decide +kernel)) ggX6_inTime_X6_isInTimeWith
theorem dX6_inTime_0 : decode cX6_inTime 0 = .ok (.aload_n 0, 1) := by decide +kernel
theorem dX6_inTime_1 : decode cX6_inTime 1 = .ok (.iload_n 1, 1) := by decide +kernel
theorem dX6_inTime_2 : decode cX6_inTime 2 = .ok (.invokevirtual 122, 3) := by decide +kernel
theorem dX6_inTime_5 : decode cX6_inTime 5 = .ok (.ifCond .eq 14, 3) := by decide +kernel
theorem dX6_inTime_8 : decode cX6_inTime 8 = .ok (.iload_n 2, 1) := by decide +kernel
theorem dX6_inTime_9 : decode cX6_inTime 9 = .ok (.iconst 0, 1) := by decide +kernel
theorem dX6_inTime_10 : decode cX6_inTime 10 = .ok (.sipush 600, 3) := by decide +kernel
theorem dX6_inTime_13 : decode cX6_inTime 13 = .ok (.invokestatic 73, 3) := by decide +kernel
theorem dX6_inTime_16 : decode cX6_inTime 16 = .ok (.ifCond .ne 5, 3) := by decide +kernel
theorem dX6_inTime_19 : decode cX6_inTime 19 = .ok (.iconst (-1), 1) := by decide +kernel
theorem dX6_inTime_20 : decode cX6_inTime 20 = .ok (.ireturn, 1) := by decide +kernel
theorem dX6_inTime_21 : decode cX6_inTime 21 = .ok (.iconst 1, 1) := by decide +kernel
theorem dX6_inTime_22 : decode cX6_inTime 22 = .ok (.aload_n 0, 1) := by decide +kernel
theorem dX6_inTime_23 : decode cX6_inTime 23 = .ok (.getfield 55, 3) := by decide +kernel
theorem dX6_inTime_26 : decode cX6_inTime 26 = .ok (.getfield 95, 3) := by decide +kernel
theorem dX6_inTime_29 : decode cX6_inTime 29 = .ok (.ishl, 1) := by decide +kernel
theorem dX6_inTime_30 : decode cX6_inTime 30 = .ok (.istore_n 3, 1) := by decide +kernel
theorem dX6_inTime_31 : decode cX6_inTime 31 = .ok (.iconst 0, 1) := by decide +kernel
theorem dX6_inTime_32 : decode cX6_inTime 32 = .ok (.istore 4, 2) := by decide +kernel
theorem dX6_inTime_34 : decode cX6_inTime 34 = .ok (.iload 4, 2) := by decide +kernel
theorem dX6_inTime_36 : decode cX6_inTime 36 = .ok (.aload_n 0, 1) := by decide +kernel
theorem dX6_inTime_37 : decode cX6_inTime 37 = .ok (.getfield 55, 3) := by decide +kernel
theorem dX6_inTime_40 : decode cX6_inTime 40 = .ok (.getfield 95, 3) := by decide +kernel
theorem dX6_inTime_43 : decode cX6_inTime 43 = .ok (.if_icmp .gt 48, 3) := by decide +kernel
theorem dX6_inTime_46 : decode cX6_inTime 46 = .ok (.iconst 0, 1) := by decide +kernel
theorem dX6_inTime_47 : decode cX6_inTime 47 = .ok (.istore 5, 2) := by decide +kernel
theorem dX6_inTime_49 : decode cX6_inTime 49 = .ok (.iload 5, 2) := by decide +kernel
theorem dX6_inTime_51 : decode cX6_inTime 51 = .ok (.iload_n 3, 1) := by decide +kernel
theorem dX6_inTime_52 : decode cX6_inTime 52 = .ok (.if_icmp .ge 33, 3) := by decide +kernel
theorem dX6_inTime_55 : decode cX6_inTime 55 = .ok (.iload 5, 2) := by decide +kernel
theorem dX6_inTime_57 : decode cX6_inTime 57 = .ok (.invokestatic 188, 3) := by decide +kernel
theorem dX6_inTime_60 : decode cX6_inTime 60 = .ok (.iload 4, 2) := by decide +kernel
theorem dX6_inTime_62 : decode cX6_inTime 62 = .ok (.if_icmp .ne 17, 3) := by decide +kernel
theorem dX6_inTime_65 : decode cX6_inTime 65 = .ok (.aload_n 0, 1) := by decide +kernel
theorem dX6_inTime_66 : decode cX6_inTime 66 = .ok (.iload 5, 2) := by decide +kernel
theorem dX6_inTime_68 : decode cX6_inTime 68 = .ok (.iload_n 1, 1) := by decide +kernel
theorem dX6_inTime_69 : decode cX6_inTime 69 = .ok (.iload_n 2, 1) := by decide +kernel
theorem dX6_inTime_70 : decode cX6_inTime 70 = .ok (.invokevirtual 193, 3) := by decide +kernel
theorem dX6_inTime_73 : decode cX6_inTime 73 = .ok (.ifCond .eq 6, 3) := by decide +kernel
theorem dX6_inTime_76 : decode cX6_inTime 76 = .ok (.iload 5, 2) := by decide +kernel
theorem dX6_inTime_78 : decode cX6_inTime 78 = .ok (.ireturn, 1) := by decide +kernel
theorem dX6_inTime_79 : decode cX6_inTime 79 = .ok (.iinc 5 1, 3) := by decide +kernel
theorem dX6_inTime_82 : decode cX6_inTime 82 = .ok (.goto (-33), 3) := by decide +kernel
theorem dX6_inTime_85 : decode cX6_inTime 85 = .ok (.iinc 4 1, 3) := by decide +kernel
theorem dX6_inTime_88 : decode cX6_inTime 88 = .ok (.goto (-54), 3) := by decide +kernel
theorem dX6_inTime_91 : decode cX6_inTime 91 = .ok (.bipush (-4), 2) := by decide +kernel
theorem dX6_inTime_93 : decode cX6_inTime 93 = .ok (.ireturn, 1) := by decide +kernel
set_option maxRecDepth 20000 in
theorem ggX6_rooms_X6_isLodger : GoodIn wsX6_rooms wsX6_isLodger := goodIn_r _ [9, 2, 71, 72, 73, 74, 75, 76, 77, 78, 79, 80, 81, 82, 83, 84, 85, 86, 87, 88, 89, 90, 91, 92, 93, 94] (by decide +kernel) (by decide +kernel)
set_option maxRecDepth 20000 in
theorem gX6_rooms_X6_isLodger : GoodIn wsX6_rooms (wsV RX6 122 RX6 yX6_isLodger wsX6_isLodger) := goodIn_app (goodIn_of _ (by decide +kernel)) ggX6_rooms_X6_isLodger
set_option maxRecDepth 20000 in
theorem ggX6_rooms_X3_measure : GoodIn wsX6_rooms wsX3_measure := goodIn_r _ [14, 15, 16, 17, 18, 8, 19, 20, 21, 22, 23, 24, 25, 26, 27, 28, 29, 30, 31, 32, 33, 34, 35, 36, 37, 38, 39, 40, 41, 42, 43, 44, 45, 46, 47, 48, 49, 50, 51, 52, 53, 54, 55, 56, 80, 81, 82, 83, 84, 85, 86, 87, 88, 89, 90, 91, 92, 93, 94, 95, 96, 97, 98, 99, 100, 101, 102, 103, 104, 105] (by decide +kernel) (by decide +kernel)
set_option maxRecDepth 20000 in
theorem gX6_rooms_X3_measure : GoodIn wsX6_rooms (wsV RX6 196 RX3 yX3_measure wsX3_measure) := goodIn_app (goodIn_of _ (by decide +kernel)) ggX6_rooms_X3_measure
set_option maxRecDepth 20000 in
theorem ggX6_rooms_X3_bestCode : GoodIn wsX6_rooms wsX3_bestCode := goodIn_r _ [60, 15, 61, 62, 63, 64, 13, 65, 17, 16, 18, 8, 19, 28, 29, 95, 96, 97] (by decide +kernel) (by decide +kernel)
set_option maxRecDepth 20000 in
theorem gX6_rooms_X3_bestCode : GoodIn wsX6_rooms (wsV RX6 199 RX3 yX3_bestCode wsX3_bestCode) := goodIn_app (goodIn_of _ (by decide +kernel)) ggX6_rooms_X3_bestCode
set_option maxRecDepth 20000 in
theorem ggX6_rooms_X3_sumOf : GoodIn wsX6_rooms wsX3_sumOf := goodIn_r _ [65, 15, 17, 16, 18, 8, 19, 28, 29, 95, 96, 97] (by decide +kernel) (by decide +kernel)
set_option maxRecDepth 20000 in
theorem gX6_rooms_X3_sumOf : GoodIn wsX6_rooms (wsV RX6 202 RX3 yX3_sumOf wsX3_sumOf) := goodIn_app (goodIn_of _ (by decide +kernel)) ggX6_rooms_X3_sumOf
set_option maxRecDepth 20000 in
theorem ggX6_rooms_X3_roomIn : GoodIn wsX6_rooms wsX3_roomIn := goodIn_r _ [70, 15, 95, 96, 97] (by decide +kernel) (by decide +kernel)
set_option maxRecDepth 20000 in
theorem gX6_rooms_X3_roomIn : GoodIn wsX6_rooms (wsV RX6 205 RX3 yX3_roomIn wsX3_roomIn) := goodIn_app (goodIn_of _ (by decide +kernel)) ggX6_rooms_X3_roomIn
theorem dX6_rooms_0 : decode cX6_rooms 0 = .ok (.iload_n 1, 1) := by decide +kernel
theorem dX6_rooms_1 : decode cX6_rooms 1 = .ok (.iconst (-1), 1) := by decide +kernel
theorem dX6_rooms_2 : decode cX6_rooms 2 = .ok (.if_icmp .eq 13, 3) := by decide +kernel
theorem dX6_rooms_5 : decode cX6_rooms 5 = .ok (.aload_n 0, 1) := by decide +kernel
theorem dX6_rooms_6 : decode cX6_rooms 6 = .ok (.iload_n 1, 1) := by decide +kernel
theorem dX6_rooms_7 : decode cX6_rooms 7 = .ok (.invokevirtual 122, 3) := by decide +kernel
theorem dX6_rooms_10 : decode cX6_rooms 10 = .ok (.ifCond .ne 5, 3) := by decide +kernel
theorem dX6_rooms_13 : decode cX6_rooms 13 = .ok (.iconst (-1), 1) := by decide +kernel
theorem dX6_rooms_14 : decode cX6_rooms 14 = .ok (.ireturn, 1) := by decide +kernel
theorem dX6_rooms_15 : decode cX6_rooms 15 = .ok (.aload_n 0, 1) := by decide +kernel
theorem dX6_rooms_16 : decode cX6_rooms 16 = .ok (.getfield 48, 3) := by decide +kernel
theorem dX6_rooms_19 : decode cX6_rooms 19 = .ok (.aload_n 0, 1) := by decide +kernel
theorem dX6_rooms_20 : decode cX6_rooms 20 = .ok (.getfield 55, 3) := by decide +kernel
theorem dX6_rooms_23 : decode cX6_rooms 23 = .ok (.aload_n 0, 1) := by decide +kernel
theorem dX6_rooms_24 : decode cX6_rooms 24 = .ok (.getfield 19, 3) := by decide +kernel
theorem dX6_rooms_27 : decode cX6_rooms 27 = .ok (.aload_n 0, 1) := by decide +kernel
theorem dX6_rooms_28 : decode cX6_rooms 28 = .ok (.getfield 41, 3) := by decide +kernel
theorem dX6_rooms_31 : decode cX6_rooms 31 = .ok (.invokevirtual 196, 3) := by decide +kernel
theorem dX6_rooms_34 : decode cX6_rooms 34 = .ok (.aload_n 0, 1) := by decide +kernel
theorem dX6_rooms_35 : decode cX6_rooms 35 = .ok (.getfield 48, 3) := by decide +kernel
theorem dX6_rooms_38 : decode cX6_rooms 38 = .ok (.invokevirtual 199, 3) := by decide +kernel
theorem dX6_rooms_41 : decode cX6_rooms 41 = .ok (.istore_n 2, 1) := by decide +kernel
theorem dX6_rooms_42 : decode cX6_rooms 42 = .ok (.iload_n 2, 1) := by decide +kernel
theorem dX6_rooms_43 : decode cX6_rooms 43 = .ok (.ifCond .ge 6, 3) := by decide +kernel
theorem dX6_rooms_46 : decode cX6_rooms 46 = .ok (.bipush (-4), 2) := by decide +kernel
theorem dX6_rooms_48 : decode cX6_rooms 48 = .ok (.ireturn, 1) := by decide +kernel
theorem dX6_rooms_49 : decode cX6_rooms 49 = .ok (.iload_n 1, 1) := by decide +kernel
theorem dX6_rooms_50 : decode cX6_rooms 50 = .ok (.ifCond .ge 14, 3) := by decide +kernel
theorem dX6_rooms_53 : decode cX6_rooms 53 = .ok (.aload_n 0, 1) := by decide +kernel
theorem dX6_rooms_54 : decode cX6_rooms 54 = .ok (.getfield 48, 3) := by decide +kernel
theorem dX6_rooms_57 : decode cX6_rooms 57 = .ok (.iload_n 2, 1) := by decide +kernel
theorem dX6_rooms_58 : decode cX6_rooms 58 = .ok (.invokevirtual 202, 3) := by decide +kernel
theorem dX6_rooms_61 : decode cX6_rooms 61 = .ok (.goto 12, 3) := by decide +kernel
theorem dX6_rooms_64 : decode cX6_rooms 64 = .ok (.aload_n 0, 1) := by decide +kernel
theorem dX6_rooms_65 : decode cX6_rooms 65 = .ok (.getfield 48, 3) := by decide +kernel
theorem dX6_rooms_68 : decode cX6_rooms 68 = .ok (.iload_n 2, 1) := by decide +kernel
theorem dX6_rooms_69 : decode cX6_rooms 69 = .ok (.iload_n 1, 1) := by decide +kernel
theorem dX6_rooms_70 : decode cX6_rooms 70 = .ok (.invokevirtual 205, 3) := by decide +kernel
theorem dX6_rooms_73 : decode cX6_rooms 73 = .ok (.ireturn, 1) := by decide +kernel
set_option maxRecDepth 20000 in
theorem ggX6_behind_X6_within : GoodIn wsX6_behind wsX6_within := goodIn_r _ [7] (by decide +kernel) (by decide +kernel)
set_option maxRecDepth 20000 in
theorem gX6_behind_X6_within : GoodIn wsX6_behind (va_wsS RX6 73 yX6_within wsX6_within) := goodIn_app (goodIn_of _ (by decide +kernel)) ggX6_behind_X6_within
set_option maxRecDepth 20000 in
theorem ggX6_behind_X6_isDoor : GoodIn wsX6_behind wsX6_isDoor := goodIn_r _ [11, 3, 72, 73, 74, 75, 76, 77, 78, 79, 80, 81, 82, 83, 84, 85, 86, 87, 88, 89, 90, 91, 92, 93, 94, 95] (by decide +kernel) (by decide +kernel)
set_option maxRecDepth 20000 in
theorem gX6_behind_X6_isDoor : GoodIn wsX6_behind (wsV RX6 98 RX6 yX6_isDoor wsX6_isDoor) := goodIn_app (goodIn_of _ (by decide +kernel)) ggX6_behind_X6_isDoor
set_option maxRecDepth 20000 in
theorem ggX6_behind_X6_isLodger : GoodIn wsX6_behind wsX6_isLodger := goodIn_r _ [15, 3, 72, 73, 74, 75, 76, 77, 78, 79, 80, 81, 82, 83, 84, 85, 86, 87, 88, 89, 90, 91, 92, 93, 94, 95] (by decide +kernel) (by decide +kernel)
set_option maxRecDepth 20000 in
theorem gX6_behind_X6_isLodger : GoodIn wsX6_behind (wsV RX6 122 RX6 yX6_isLodger wsX6_isLodger) := goodIn_app (goodIn_of _ (by decide +kernel)) ggX6_behind_X6_isLodger
set_option maxRecDepth 20000 in
theorem ggX6_behind_X0_become : GoodIn wsX6_behind wsX0_become := goodIn_r _ [20, 21, 22, 23, 24, 25, 26, 6, 27, 96, 97, 98, 99, 100, 101] (by decide +kernel) (by decide +kernel)
set_option maxRecDepth 20000 in
theorem gX6_behind_X0_become : GoodIn wsX6_behind (wsV RX6 208 RX0 yX0_become wsX0_become) := goodIn_app (goodIn_of _ (by decide +kernel)) ggX6_behind_X0_become
set_option maxRecDepth 20000 in
theorem ggX6_behind_X0_sleepAgainstOne : GoodIn wsX6_behind wsX0_sleepAgainstOne := goodIn_r _ [31, 32, 33, 34, 19, 35, 36, 37, 6, 38, 39, 40, 41, 42, 43, 44, 22, 45, 46, 47, 48, 21, 49, 50, 51, 52, 53, 54, 55, 56, 57, 58, 59, 60, 61, 62, 63, 64, 65, 66, 67, 68, 69, 70, 96, 97, 98, 99, 100, 101, 81, 82, 83, 84, 85, 86, 87, 88, 89, 90, 91, 92, 93, 94, 95] (by decide +kernel) (by decide +kernel)
set_option maxRecDepth 20000 in
theorem gX6_behind_X0_sleepAgainstOne : GoodIn wsX6_behind (wsV RX6 211 RX0 yX0_sleepAgainstOne wsX0_sleepAgainstOne) := goodIn_app (goodIn_of _ (by decide +kernel)) ggX6_behind_X0_sleepAgainstOne
set_option maxRecDepth 20000 in
theorem ggX6_behind_X0_grudgeOf : GoodIn wsX6_behind wsX0_grudgeOf := goodIn_r _ [48, 21, 39, 6, 40, 96, 97, 98, 99, 100, 101] (by decide +kernel) (by decide +kernel)
set_option maxRecDepth 20000 in
theorem gX6_behind_X0_grudgeOf : GoodIn wsX6_behind (wsV RX6 134 RX0 yX0_grudgeOf wsX0_grudgeOf) := goodIn_app (goodIn_of _ (by decide +kernel)) ggX6_behind_X0_grudgeOf
theorem dX6_behind_0 : decode cX6_behind 0 = .ok (.iload_n 1, 1) := by decide +kernel
theorem dX6_behind_1 : decode cX6_behind 1 = .ok (.iconst 0, 1) := by decide +kernel
theorem dX6_behind_2 : decode cX6_behind 2 = .ok (.bipush 60, 2) := by decide +kernel
theorem dX6_behind_4 : decode cX6_behind 4 = .ok (.invokestatic 73, 3) := by decide +kernel
theorem dX6_behind_7 : decode cX6_behind 7 = .ok (.ifCond .eq 19, 3) := by decide +kernel
theorem dX6_behind_10 : decode cX6_behind 10 = .ok (.aload_n 0, 1) := by decide +kernel
theorem dX6_behind_11 : decode cX6_behind 11 = .ok (.iload_n 2, 1) := by decide +kernel
theorem dX6_behind_12 : decode cX6_behind 12 = .ok (.invokevirtual 98, 3) := by decide +kernel
theorem dX6_behind_15 : decode cX6_behind 15 = .ok (.ifCond .eq 11, 3) := by decide +kernel
theorem dX6_behind_18 : decode cX6_behind 18 = .ok (.aload_n 0, 1) := by decide +kernel
theorem dX6_behind_19 : decode cX6_behind 19 = .ok (.iload_n 3, 1) := by decide +kernel
theorem dX6_behind_20 : decode cX6_behind 20 = .ok (.invokevirtual 122, 3) := by decide +kernel
theorem dX6_behind_23 : decode cX6_behind 23 = .ok (.ifCond .ne 5, 3) := by decide +kernel
theorem dX6_behind_26 : decode cX6_behind 26 = .ok (.iconst (-1), 1) := by decide +kernel
theorem dX6_behind_27 : decode cX6_behind 27 = .ok (.ireturn, 1) := by decide +kernel
theorem dX6_behind_28 : decode cX6_behind 28 = .ok (.aload_n 0, 1) := by decide +kernel
theorem dX6_behind_29 : decode cX6_behind 29 = .ok (.getfield 23, 3) := by decide +kernel
theorem dX6_behind_32 : decode cX6_behind 32 = .ok (.aload_n 0, 1) := by decide +kernel
theorem dX6_behind_33 : decode cX6_behind 33 = .ok (.getfield 19, 3) := by decide +kernel
theorem dX6_behind_36 : decode cX6_behind 36 = .ok (.invokevirtual 208, 3) := by decide +kernel
theorem dX6_behind_39 : decode cX6_behind 39 = .ok (.aload_n 0, 1) := by decide +kernel
theorem dX6_behind_40 : decode cX6_behind 40 = .ok (.getfield 23, 3) := by decide +kernel
theorem dX6_behind_43 : decode cX6_behind 43 = .ok (.aload_n 0, 1) := by decide +kernel
theorem dX6_behind_44 : decode cX6_behind 44 = .ok (.getfield 55, 3) := by decide +kernel
theorem dX6_behind_47 : decode cX6_behind 47 = .ok (.iload_n 1, 1) := by decide +kernel
theorem dX6_behind_48 : decode cX6_behind 48 = .ok (.iload_n 3, 1) := by decide +kernel
theorem dX6_behind_49 : decode cX6_behind 49 = .ok (.invokevirtual 211, 3) := by decide +kernel
theorem dX6_behind_52 : decode cX6_behind 52 = .ok (.aload_n 0, 1) := by decide +kernel
theorem dX6_behind_53 : decode cX6_behind 53 = .ok (.getfield 23, 3) := by decide +kernel
theorem dX6_behind_56 : decode cX6_behind 56 = .ok (.iload_n 2, 1) := by decide +kernel
theorem dX6_behind_57 : decode cX6_behind 57 = .ok (.iload_n 3, 1) := by decide +kernel
theorem dX6_behind_58 : decode cX6_behind 58 = .ok (.invokevirtual 134, 3) := by decide +kernel
theorem dX6_behind_61 : decode cX6_behind 61 = .ok (.ireturn, 1) := by decide +kernel
set_option maxRecDepth 20000 in
theorem ggX6_worst_X6_within : GoodIn wsX6_worst wsX6_within := goodIn_r _ [7] (by decide +kernel) (by decide +kernel)
set_option maxRecDepth 20000 in
theorem gX6_worst_X6_within : GoodIn wsX6_worst (va_wsS RX6 73 yX6_within wsX6_within) := goodIn_app (goodIn_of _ (by decide +kernel)) ggX6_worst_X6_within
set_option maxRecDepth 20000 in
theorem ggX6_worst_X6_isLodger : GoodIn wsX6_worst wsX6_isLodger := goodIn_r _ [11, 3, 68, 69, 70, 71, 72, 73, 74, 75, 76, 77, 78, 79, 80, 81, 82, 83, 84, 85, 86, 87, 88, 89, 90, 91] (by decide +kernel) (by decide +kernel)
set_option maxRecDepth 20000 in
theorem gX6_worst_X6_isLodger : GoodIn wsX6_worst (wsV RX6 122 RX6 yX6_isLodger wsX6_isLodger) := goodIn_app (goodIn_of _ (by decide +kernel)) ggX6_worst_X6_isLodger
set_option maxRecDepth 20000 in
theorem ggX6_worst_X0_become : GoodIn wsX6_worst wsX0_become := goodIn_r _ [16, 17, 18, 19, 20, 21, 22, 6, 23, 92, 93, 94, 95, 96, 97] (by decide +kernel) (by decide +kernel)
set_option maxRecDepth 20000 in
theorem gX6_worst_X0_become : GoodIn wsX6_worst (wsV RX6 208 RX0 yX0_become wsX0_become) := goodIn_app (goodIn_of _ (by decide +kernel)) ggX6_worst_X0_become
set_option maxRecDepth 20000 in
theorem ggX6_worst_X0_sleepAgainstOne : GoodIn wsX6_worst wsX0_sleepAgainstOne := goodIn_r _ [27, 28, 29, 30, 15, 31, 32, 33, 6, 34, 35, 36, 37, 38, 39, 40, 18, 41, 42, 43, 44, 17, 45, 46, 47, 48, 49, 50, 51, 52, 53, 54, 55, 56, 57, 58, 59, 60, 61, 62, 63, 64, 65, 66, 92, 93, 94, 95, 96, 97, 77, 78, 79, 80, 81, 82, 83, 84, 85, 86, 87, 88, 89, 90, 91] (by decide +kernel) (by decide +kernel)
set_option maxRecDepth 20000 in
theorem gX6_worst_X0_sleepAgainstOne : GoodIn wsX6_worst (wsV RX6 211 RX0 yX0_sleepAgainstOne wsX0_sleepAgainstOne) := goodIn_app (goodIn_of _ (by decide +kernel)) ggX6_worst_X0_sleepAgainstOne
set_option maxRecDepth 20000 in
theorem ggX6_worst_X0_grudgeOf : GoodIn wsX6_worst wsX0_grudgeOf := goodIn_r _ [44, 17, 35, 6, 36, 92, 93, 94, 95, 96, 97] (by decide +kernel) (by decide +kernel)
set_option maxRecDepth 20000 in
theorem gX6_worst_X0_grudgeOf : GoodIn wsX6_worst (wsV RX6 134 RX0 yX0_grudgeOf wsX0_grudgeOf) := goodIn_app (goodIn_of _ (by decide +kernel)) ggX6_worst_X0_grudgeOf
theorem dX6_worst_0 : decode cX6_worst 0 = .ok (.iload_n 1, 1) := by decide +kernel
theorem dX6_worst_1 : decode cX6_worst 1 = .ok (.iconst 0, 1) := by decide +kernel
theorem dX6_worst_2 : decode cX6_worst 2 = .ok (.bipush 60, 2) := by decide +kernel
theorem dX6_worst_4 : decode cX6_worst 4 = .ok (.invokestatic 73, 3) := by decide +kernel
theorem dX6_worst_7 : decode cX6_worst 7 = .ok (.ifCond .eq 11, 3) := by decide +kernel
theorem dX6_worst_10 : decode cX6_worst 10 = .ok (.aload_n 0, 1) := by decide +kernel
theorem dX6_worst_11 : decode cX6_worst 11 = .ok (.iload_n 2, 1) := by decide +kernel
theorem dX6_worst_12 : decode cX6_worst 12 = .ok (.invokevirtual 122, 3) := by decide +kernel
theorem dX6_worst_15 : decode cX6_worst 15 = .ok (.ifCond .ne 5, 3) := by decide +kernel
theorem dX6_worst_18 : decode cX6_worst 18 = .ok (.iconst (-1), 1) := by decide +kernel
theorem dX6_worst_19 : decode cX6_worst 19 = .ok (.ireturn, 1) := by decide +kernel
theorem dX6_worst_20 : decode cX6_worst 20 = .ok (.aload_n 0, 1) := by decide +kernel
theorem dX6_worst_21 : decode cX6_worst 21 = .ok (.getfield 23, 3) := by decide +kernel
theorem dX6_worst_24 : decode cX6_worst 24 = .ok (.aload_n 0, 1) := by decide +kernel
theorem dX6_worst_25 : decode cX6_worst 25 = .ok (.getfield 19, 3) := by decide +kernel
theorem dX6_worst_28 : decode cX6_worst 28 = .ok (.invokevirtual 208, 3) := by decide +kernel
theorem dX6_worst_31 : decode cX6_worst 31 = .ok (.aload_n 0, 1) := by decide +kernel
theorem dX6_worst_32 : decode cX6_worst 32 = .ok (.getfield 23, 3) := by decide +kernel
theorem dX6_worst_35 : decode cX6_worst 35 = .ok (.aload_n 0, 1) := by decide +kernel
theorem dX6_worst_36 : decode cX6_worst 36 = .ok (.getfield 55, 3) := by decide +kernel
theorem dX6_worst_39 : decode cX6_worst 39 = .ok (.iload_n 1, 1) := by decide +kernel
theorem dX6_worst_40 : decode cX6_worst 40 = .ok (.iload_n 2, 1) := by decide +kernel
theorem dX6_worst_41 : decode cX6_worst 41 = .ok (.invokevirtual 211, 3) := by decide +kernel
theorem dX6_worst_44 : decode cX6_worst 44 = .ok (.iconst 0, 1) := by decide +kernel
theorem dX6_worst_45 : decode cX6_worst 45 = .ok (.istore_n 3, 1) := by decide +kernel
theorem dX6_worst_46 : decode cX6_worst 46 = .ok (.iconst 1, 1) := by decide +kernel
theorem dX6_worst_47 : decode cX6_worst 47 = .ok (.istore 4, 2) := by decide +kernel
theorem dX6_worst_49 : decode cX6_worst 49 = .ok (.iload 4, 2) := by decide +kernel
theorem dX6_worst_51 : decode cX6_worst 51 = .ok (.aload_n 0, 1) := by decide +kernel
theorem dX6_worst_52 : decode cX6_worst 52 = .ok (.getfield 55, 3) := by decide +kernel
theorem dX6_worst_55 : decode cX6_worst 55 = .ok (.getfield 95, 3) := by decide +kernel
theorem dX6_worst_58 : decode cX6_worst 58 = .ok (.if_icmp .ge 34, 3) := by decide +kernel
theorem dX6_worst_61 : decode cX6_worst 61 = .ok (.aload_n 0, 1) := by decide +kernel
theorem dX6_worst_62 : decode cX6_worst 62 = .ok (.getfield 23, 3) := by decide +kernel
theorem dX6_worst_65 : decode cX6_worst 65 = .ok (.iload 4, 2) := by decide +kernel
theorem dX6_worst_67 : decode cX6_worst 67 = .ok (.iload_n 2, 1) := by decide +kernel
theorem dX6_worst_68 : decode cX6_worst 68 = .ok (.invokevirtual 134, 3) := by decide +kernel
theorem dX6_worst_71 : decode cX6_worst 71 = .ok (.aload_n 0, 1) := by decide +kernel
theorem dX6_worst_72 : decode cX6_worst 72 = .ok (.getfield 23, 3) := by decide +kernel
theorem dX6_worst_75 : decode cX6_worst 75 = .ok (.iload_n 3, 1) := by decide +kernel
theorem dX6_worst_76 : decode cX6_worst 76 = .ok (.iload_n 2, 1) := by decide +kernel
theorem dX6_worst_77 : decode cX6_worst 77 = .ok (.invokevirtual 134, 3) := by decide +kernel
theorem dX6_worst_80 : decode cX6_worst 80 = .ok (.if_icmp .le 6, 3) := by decide +kernel
theorem dX6_worst_83 : decode cX6_worst 83 = .ok (.iload 4, 2) := by decide +kernel
theorem dX6_worst_85 : decode cX6_worst 85 = .ok (.istore_n 3, 1) := by decide +kernel
theorem dX6_worst_86 : decode cX6_worst 86 = .ok (.iinc 4 1, 3) := by decide +kernel
theorem dX6_worst_89 : decode cX6_worst 89 = .ok (.goto (-40), 3) := by decide +kernel
theorem dX6_worst_92 : decode cX6_worst 92 = .ok (.iload_n 3, 1) := by decide +kernel
theorem dX6_worst_93 : decode cX6_worst 93 = .ok (.ireturn, 1) := by decide +kernel
set_option maxRecDepth 20000 in
theorem ggX6_stop_X6_within : GoodIn wsX6_stop wsX6_within := goodIn_r _ [5] (by decide +kernel) (by decide +kernel)
set_option maxRecDepth 20000 in
theorem gX6_stop_X6_within : GoodIn wsX6_stop (va_wsS RX6 73 yX6_within wsX6_within) := goodIn_app (goodIn_of _ (by decide +kernel)) ggX6_stop_X6_within
set_option maxRecDepth 20000 in
theorem ggX6_stop_X6_isDoor : GoodIn wsX6_stop wsX6_isDoor := goodIn_r _ [9, 1, 87, 88, 89, 90, 91, 92, 93, 94, 95, 96, 97, 98, 99, 100, 101, 102, 103, 104, 105, 106, 107, 108, 109, 110] (by decide +kernel) (by decide +kernel)
set_option maxRecDepth 20000 in
theorem gX6_stop_X6_isDoor : GoodIn wsX6_stop (wsV RX6 98 RX6 yX6_isDoor wsX6_isDoor) := goodIn_app (goodIn_of _ (by decide +kernel)) ggX6_stop_X6_isDoor
set_option maxRecDepth 20000 in
theorem ggX6_stop_X6_isLodger : GoodIn wsX6_stop wsX6_isLodger := goodIn_r _ [13, 1, 87, 88, 89, 90, 91, 92, 93, 94, 95, 96, 97, 98, 99, 100, 101, 102, 103, 104, 105, 106, 107, 108, 109, 110] (by decide +kernel) (by decide +kernel)
set_option maxRecDepth 20000 in
theorem gX6_stop_X6_isLodger : GoodIn wsX6_stop (wsV RX6 122 RX6 yX6_isLodger wsX6_isLodger) := goodIn_app (goodIn_of _ (by decide +kernel)) ggX6_stop_X6_isLodger
set_option maxRecDepth 20000 in
theorem ggX6_stop_J6_bitCount_0f7a4 : GoodIn wsX6_stop wsJ6_bitCount_0f7a4 := goodIn_r _ [17, 18, 19, 20] (by decide +kernel) (by decide +kernel)
set_option maxRecDepth 20000 in
theorem gX6_stop_J6_bitCount_0f7a4 : GoodIn wsX6_stop (va_wsS RX6 188 yJ6_bitCount_0f7a4 wsJ6_bitCount_0f7a4) := goodIn_app (goodIn_of _ (by decide +kernel)) ggX6_stop_J6_bitCount_0f7a4
set_option maxRecDepth 20000 in
theorem ggX6_stop_X6_holds : GoodIn wsX6_stop wsX6_holds := goodIn_r _ [23] (by decide +kernel) (by decide +kernel)
set_option maxRecDepth 20000 in
theorem gX6_stop_X6_holds : GoodIn wsX6_stop (va_wsS RX6 215 yX6_holds wsX6_holds) := goodIn_app (goodIn_of _ (by decide +kernel)) ggX6_stop_X6_holds
set_option maxRecDepth 20000 in
theorem ggX6_stop_X6_grudgeBehindWith : GoodIn wsX6_stop wsX6_grudgeBehindWith := goodIn_r _ [27, 28, 29, 1, 30, 31, 32, 33, 34, 35, 36, 37, 38, 39, 40, 4, 41, 21, 22, 23, 42, 43, 44, 45, 46, 47, 48, 49, 50, 51, 52, 53, 54, 55, 56, 57, 58, 59, 60, 61, 62, 63, 64, 65, 66, 67, 68, 69, 70, 71, 72, 73, 74, 75, 76, 77, 78, 79, 80, 81, 82, 83, 84, 85, 86, 87, 88, 89, 90, 91, 92, 93, 94, 95, 96, 97, 98, 99, 100, 101, 102, 103, 104, 105, 106, 107, 108, 109, 110, 111, 112, 113, 114, 115, 116] (by decide +kernel) (by decide +kernel)
set_option maxRecDepth 20000 in
theorem gX6_stop_X6_grudgeBehindWith : GoodIn wsX6_stop (wsV RX6 219 RX6 yX6_grudgeBehindWith wsX6_grudgeBehindWith) := goodIn_app (goodIn_of _ (by decide +kernel)) ggX6_stop_X6_grudgeBehindWith
theorem dX6_stop_0 : decode cX6_stop 0 = .ok (.iload_n 1, 1) := by decide +kernel
theorem dX6_stop_1 : decode cX6_stop 1 = .ok (.iconst 0, 1) := by decide +kernel
theorem dX6_stop_2 : decode cX6_stop 2 = .ok (.bipush 60, 2) := by decide +kernel
theorem dX6_stop_4 : decode cX6_stop 4 = .ok (.invokestatic 73, 3) := by decide +kernel
theorem dX6_stop_7 : decode cX6_stop 7 = .ok (.ifCond .eq 30, 3) := by decide +kernel
theorem dX6_stop_10 : decode cX6_stop 10 = .ok (.aload_n 0, 1) := by decide +kernel
theorem dX6_stop_11 : decode cX6_stop 11 = .ok (.iload_n 2, 1) := by decide +kernel
theorem dX6_stop_12 : decode cX6_stop 12 = .ok (.invokevirtual 98, 3) := by decide +kernel
theorem dX6_stop_15 : decode cX6_stop 15 = .ok (.ifCond .eq 22, 3) := by decide +kernel
theorem dX6_stop_18 : decode cX6_stop 18 = .ok (.aload_n 0, 1) := by decide +kernel
theorem dX6_stop_19 : decode cX6_stop 19 = .ok (.iload_n 3, 1) := by decide +kernel
theorem dX6_stop_20 : decode cX6_stop 20 = .ok (.invokevirtual 122, 3) := by decide +kernel
theorem dX6_stop_23 : decode cX6_stop 23 = .ok (.ifCond .eq 14, 3) := by decide +kernel
theorem dX6_stop_26 : decode cX6_stop 26 = .ok (.iload 4, 2) := by decide +kernel
theorem dX6_stop_28 : decode cX6_stop 28 = .ok (.iconst 1, 1) := by decide +kernel
theorem dX6_stop_29 : decode cX6_stop 29 = .ok (.bipush 99, 2) := by decide +kernel
theorem dX6_stop_31 : decode cX6_stop 31 = .ok (.invokestatic 73, 3) := by decide +kernel
theorem dX6_stop_34 : decode cX6_stop 34 = .ok (.ifCond .ne 5, 3) := by decide +kernel
theorem dX6_stop_37 : decode cX6_stop 37 = .ok (.iconst (-1), 1) := by decide +kernel
theorem dX6_stop_38 : decode cX6_stop 38 = .ok (.ireturn, 1) := by decide +kernel
theorem dX6_stop_39 : decode cX6_stop 39 = .ok (.iconst 1, 1) := by decide +kernel
theorem dX6_stop_40 : decode cX6_stop 40 = .ok (.aload_n 0, 1) := by decide +kernel
theorem dX6_stop_41 : decode cX6_stop 41 = .ok (.getfield 55, 3) := by decide +kernel
theorem dX6_stop_44 : decode cX6_stop 44 = .ok (.getfield 95, 3) := by decide +kernel
theorem dX6_stop_47 : decode cX6_stop 47 = .ok (.ishl, 1) := by decide +kernel
theorem dX6_stop_48 : decode cX6_stop 48 = .ok (.istore 5, 2) := by decide +kernel
theorem dX6_stop_50 : decode cX6_stop 50 = .ok (.iconst 0, 1) := by decide +kernel
theorem dX6_stop_51 : decode cX6_stop 51 = .ok (.istore 6, 2) := by decide +kernel
theorem dX6_stop_53 : decode cX6_stop 53 = .ok (.iload 6, 2) := by decide +kernel
theorem dX6_stop_55 : decode cX6_stop 55 = .ok (.aload_n 0, 1) := by decide +kernel
theorem dX6_stop_56 : decode cX6_stop 56 = .ok (.getfield 55, 3) := by decide +kernel
theorem dX6_stop_59 : decode cX6_stop 59 = .ok (.getfield 95, 3) := by decide +kernel
theorem dX6_stop_62 : decode cX6_stop 62 = .ok (.if_icmp .ge 73, 3) := by decide +kernel
theorem dX6_stop_65 : decode cX6_stop 65 = .ok (.iconst 0, 1) := by decide +kernel
theorem dX6_stop_66 : decode cX6_stop 66 = .ok (.istore 7, 2) := by decide +kernel
theorem dX6_stop_68 : decode cX6_stop 68 = .ok (.iload 7, 2) := by decide +kernel
theorem dX6_stop_70 : decode cX6_stop 70 = .ok (.iload 5, 2) := by decide +kernel
theorem dX6_stop_72 : decode cX6_stop 72 = .ok (.if_icmp .ge 57, 3) := by decide +kernel
theorem dX6_stop_75 : decode cX6_stop 75 = .ok (.iload 7, 2) := by decide +kernel
theorem dX6_stop_77 : decode cX6_stop 77 = .ok (.invokestatic 188, 3) := by decide +kernel
theorem dX6_stop_80 : decode cX6_stop 80 = .ok (.iload 6, 2) := by decide +kernel
theorem dX6_stop_82 : decode cX6_stop 82 = .ok (.if_icmp .ne 16, 3) := by decide +kernel
theorem dX6_stop_85 : decode cX6_stop 85 = .ok (.iload 7, 2) := by decide +kernel
theorem dX6_stop_87 : decode cX6_stop 87 = .ok (.iload_n 2, 1) := by decide +kernel
theorem dX6_stop_88 : decode cX6_stop 88 = .ok (.invokestatic 215, 3) := by decide +kernel
theorem dX6_stop_91 : decode cX6_stop 91 = .ok (.ifCond .ne 7, 3) := by decide +kernel
theorem dX6_stop_94 : decode cX6_stop 94 = .ok (.iconst 1, 1) := by decide +kernel
theorem dX6_stop_95 : decode cX6_stop 95 = .ok (.goto 4, 3) := by decide +kernel
theorem dX6_stop_98 : decode cX6_stop 98 = .ok (.iconst 0, 1) := by decide +kernel
theorem dX6_stop_99 : decode cX6_stop 99 = .ok (.istore 8, 2) := by decide +kernel
theorem dX6_stop_101 : decode cX6_stop 101 = .ok (.iload 8, 2) := by decide +kernel
theorem dX6_stop_103 : decode cX6_stop 103 = .ok (.ifCond .eq 20, 3) := by decide +kernel
theorem dX6_stop_106 : decode cX6_stop 106 = .ok (.aload_n 0, 1) := by decide +kernel
theorem dX6_stop_107 : decode cX6_stop 107 = .ok (.iload 7, 2) := by decide +kernel
theorem dX6_stop_109 : decode cX6_stop 109 = .ok (.iload_n 1, 1) := by decide +kernel
theorem dX6_stop_110 : decode cX6_stop 110 = .ok (.iload_n 2, 1) := by decide +kernel
theorem dX6_stop_111 : decode cX6_stop 111 = .ok (.iload_n 3, 1) := by decide +kernel
theorem dX6_stop_112 : decode cX6_stop 112 = .ok (.invokevirtual 219, 3) := by decide +kernel
theorem dX6_stop_115 : decode cX6_stop 115 = .ok (.iload 4, 2) := by decide +kernel
theorem dX6_stop_117 : decode cX6_stop 117 = .ok (.if_icmp .ge 6, 3) := by decide +kernel
theorem dX6_stop_120 : decode cX6_stop 120 = .ok (.iload 7, 2) := by decide +kernel
theorem dX6_stop_122 : decode cX6_stop 122 = .ok (.ireturn, 1) := by decide +kernel
theorem dX6_stop_123 : decode cX6_stop 123 = .ok (.iinc 7 1, 3) := by decide +kernel
theorem dX6_stop_126 : decode cX6_stop 126 = .ok (.goto (-58), 3) := by decide +kernel
theorem dX6_stop_129 : decode cX6_stop 129 = .ok (.iinc 6 1, 3) := by decide +kernel
theorem dX6_stop_132 : decode cX6_stop 132 = .ok (.goto (-79), 3) := by decide +kernel
theorem dX6_stop_135 : decode cX6_stop 135 = .ok (.bipush (-4), 2) := by decide +kernel
theorem dX6_stop_137 : decode cX6_stop 137 = .ok (.ireturn, 1) := by decide +kernel
set_option maxRecDepth 20000 in
theorem ggX6_how_X6_within : GoodIn wsX6_how wsX6_within := goodIn_r _ [9] (by decide +kernel) (by decide +kernel)
set_option maxRecDepth 20000 in
theorem gX6_how_X6_within : GoodIn wsX6_how (va_wsS RX6 73 yX6_within wsX6_within) := goodIn_app (goodIn_of _ (by decide +kernel)) ggX6_how_X6_within
set_option maxRecDepth 20000 in
theorem ggX6_how_X6_isLodger : GoodIn wsX6_how wsX6_isLodger := goodIn_r _ [13, 1, 48, 49, 50, 51, 52, 53, 54, 55, 56, 57, 58, 59, 60, 61, 62, 63, 64, 65, 66, 67, 68, 69, 70, 71] (by decide +kernel) (by decide +kernel)
set_option maxRecDepth 20000 in
theorem gX6_how_X6_isLodger : GoodIn wsX6_how (wsV RX6 122 RX6 yX6_isLodger wsX6_isLodger) := goodIn_app (goodIn_of _ (by decide +kernel)) ggX6_how_X6_isLodger
set_option maxRecDepth 20000 in
theorem ggX6_how_X6_isDoor : GoodIn wsX6_how wsX6_isDoor := goodIn_r _ [17, 1, 48, 49, 50, 51, 52, 53, 54, 55, 56, 57, 58, 59, 60, 61, 62, 63, 64, 65, 66, 67, 68, 69, 70, 71] (by decide +kernel) (by decide +kernel)
set_option maxRecDepth 20000 in
theorem gX6_how_X6_isDoor : GoodIn wsX6_how (wsV RX6 98 RX6 yX6_isDoor wsX6_isDoor) := goodIn_app (goodIn_of _ (by decide +kernel)) ggX6_how_X6_isDoor
set_option maxRecDepth 20000 in
theorem ggX6_how_X2_grudgeAfter : GoodIn wsX6_how wsX2_grudgeAfter := goodIn_r _ [22, 23, 24, 8, 25, 26, 27, 28, 29, 30, 21, 31, 32, 33, 34, 35, 2, 3, 4, 5, 36, 37, 38, 39, 40, 57, 58, 59, 60, 61, 62, 63, 64, 65, 66, 67, 68, 69, 70, 71] (by decide +kernel) (by decide +kernel)
set_option maxRecDepth 20000 in
theorem gX6_how_X2_grudgeAfter : GoodIn wsX6_how (wsV RX6 223 RX2 yX2_grudgeAfter wsX2_grudgeAfter) := goodIn_app (goodIn_of _ (by decide +kernel)) ggX6_how_X2_grudgeAfter
set_option maxRecDepth 20000 in
theorem ggX6_how_J6_bitCount_0f7a4 : GoodIn wsX6_how wsJ6_bitCount_0f7a4 := goodIn_r _ [44, 45, 46, 47] (by decide +kernel) (by decide +kernel)
set_option maxRecDepth 20000 in
theorem gX6_how_J6_bitCount_0f7a4 : GoodIn wsX6_how (va_wsS RX6 188 yJ6_bitCount_0f7a4 wsJ6_bitCount_0f7a4) := goodIn_app (goodIn_of _ (by decide +kernel)) ggX6_how_J6_bitCount_0f7a4
theorem dX6_how_0 : decode cX6_how 0 = .ok (.iload_n 3, 1) := by decide +kernel
theorem dX6_how_1 : decode cX6_how 1 = .ok (.iconst 0, 1) := by decide +kernel
theorem dX6_how_2 : decode cX6_how 2 = .ok (.bipush 8, 2) := by decide +kernel
theorem dX6_how_4 : decode cX6_how 4 = .ok (.invokestatic 73, 3) := by decide +kernel
theorem dX6_how_7 : decode cX6_how 7 = .ok (.ifCond .eq 28, 3) := by decide +kernel
theorem dX6_how_10 : decode cX6_how 10 = .ok (.iload 4, 2) := by decide +kernel
theorem dX6_how_12 : decode cX6_how 12 = .ok (.iconst 1, 1) := by decide +kernel
theorem dX6_how_13 : decode cX6_how 13 = .ok (.bipush 100, 2) := by decide +kernel
theorem dX6_how_15 : decode cX6_how 15 = .ok (.invokestatic 73, 3) := by decide +kernel
theorem dX6_how_18 : decode cX6_how 18 = .ok (.ifCond .eq 17, 3) := by decide +kernel
theorem dX6_how_21 : decode cX6_how 21 = .ok (.iload 5, 2) := by decide +kernel
theorem dX6_how_23 : decode cX6_how 23 = .ok (.iconst 0, 1) := by decide +kernel
theorem dX6_how_24 : decode cX6_how 24 = .ok (.iconst 1, 1) := by decide +kernel
theorem dX6_how_25 : decode cX6_how 25 = .ok (.invokestatic 73, 3) := by decide +kernel
theorem dX6_how_28 : decode cX6_how 28 = .ok (.ifCond .eq 7, 3) := by decide +kernel
theorem dX6_how_31 : decode cX6_how 31 = .ok (.iconst 1, 1) := by decide +kernel
theorem dX6_how_32 : decode cX6_how 32 = .ok (.goto 4, 3) := by decide +kernel
theorem dX6_how_35 : decode cX6_how 35 = .ok (.iconst 0, 1) := by decide +kernel
theorem dX6_how_36 : decode cX6_how 36 = .ok (.istore 6, 2) := by decide +kernel
theorem dX6_how_38 : decode cX6_how 38 = .ok (.aload_n 0, 1) := by decide +kernel
theorem dX6_how_39 : decode cX6_how 39 = .ok (.iload_n 1, 1) := by decide +kernel
theorem dX6_how_40 : decode cX6_how 40 = .ok (.invokevirtual 122, 3) := by decide +kernel
theorem dX6_how_43 : decode cX6_how 43 = .ok (.ifCond .eq 16, 3) := by decide +kernel
theorem dX6_how_46 : decode cX6_how 46 = .ok (.aload_n 0, 1) := by decide +kernel
theorem dX6_how_47 : decode cX6_how 47 = .ok (.iload_n 2, 1) := by decide +kernel
theorem dX6_how_48 : decode cX6_how 48 = .ok (.invokevirtual 98, 3) := by decide +kernel
theorem dX6_how_51 : decode cX6_how 51 = .ok (.ifCond .eq 8, 3) := by decide +kernel
theorem dX6_how_54 : decode cX6_how 54 = .ok (.iload 6, 2) := by decide +kernel
theorem dX6_how_56 : decode cX6_how 56 = .ok (.ifCond .ne 5, 3) := by decide +kernel
theorem dX6_how_59 : decode cX6_how 59 = .ok (.iconst (-1), 1) := by decide +kernel
theorem dX6_how_60 : decode cX6_how 60 = .ok (.ireturn, 1) := by decide +kernel
theorem dX6_how_61 : decode cX6_how 61 = .ok (.iconst 0, 1) := by decide +kernel
theorem dX6_how_62 : decode cX6_how 62 = .ok (.istore 7, 2) := by decide +kernel
theorem dX6_how_64 : decode cX6_how 64 = .ok (.bipush 9, 2) := by decide +kernel
theorem dX6_how_66 : decode cX6_how 66 = .ok (.istore 8, 2) := by decide +kernel
theorem dX6_how_68 : decode cX6_how 68 = .ok (.iconst 0, 1) := by decide +kernel
theorem dX6_how_69 : decode cX6_how 69 = .ok (.istore 9, 2) := by decide +kernel
theorem dX6_how_71 : decode cX6_how 71 = .ok (.iload 9, 2) := by decide +kernel
theorem dX6_how_73 : decode cX6_how 73 = .ok (.iconst 1, 1) := by decide +kernel
theorem dX6_how_74 : decode cX6_how 74 = .ok (.iload_n 3, 1) := by decide +kernel
theorem dX6_how_75 : decode cX6_how 75 = .ok (.ishl, 1) := by decide +kernel
theorem dX6_how_76 : decode cX6_how 76 = .ok (.if_icmp .ge 43, 3) := by decide +kernel
theorem dX6_how_79 : decode cX6_how 79 = .ok (.iconst 1, 1) := by decide +kernel
theorem dX6_how_80 : decode cX6_how 80 = .ok (.aload_n 0, 1) := by decide +kernel
theorem dX6_how_81 : decode cX6_how 81 = .ok (.getfield 55, 3) := by decide +kernel
theorem dX6_how_84 : decode cX6_how 84 = .ok (.iload_n 2, 1) := by decide +kernel
theorem dX6_how_85 : decode cX6_how 85 = .ok (.iload_n 1, 1) := by decide +kernel
theorem dX6_how_86 : decode cX6_how 86 = .ok (.iload_n 3, 1) := by decide +kernel
theorem dX6_how_87 : decode cX6_how 87 = .ok (.iload 9, 2) := by decide +kernel
theorem dX6_how_89 : decode cX6_how 89 = .ok (.invokevirtual 223, 3) := by decide +kernel
theorem dX6_how_92 : decode cX6_how 92 = .ok (.iadd, 1) := by decide +kernel
theorem dX6_how_93 : decode cX6_how 93 = .ok (.iload 4, 2) := by decide +kernel
theorem dX6_how_95 : decode cX6_how 95 = .ok (.if_icmp .ne 18, 3) := by decide +kernel
theorem dX6_how_98 : decode cX6_how 98 = .ok (.iinc 7 1, 3) := by decide +kernel
theorem dX6_how_101 : decode cX6_how 101 = .ok (.iload 8, 2) := by decide +kernel
theorem dX6_how_103 : decode cX6_how 103 = .ok (.iload 9, 2) := by decide +kernel
theorem dX6_how_105 : decode cX6_how 105 = .ok (.invokestatic 188, 3) := by decide +kernel
theorem dX6_how_108 : decode cX6_how 108 = .ok (.invokestatic 226, 3) := by decide +kernel
theorem dX6_how_111 : decode cX6_how 111 = .ok (.istore 8, 2) := by decide +kernel
theorem dX6_how_113 : decode cX6_how 113 = .ok (.iinc 9 1, 3) := by decide +kernel
theorem dX6_how_116 : decode cX6_how 116 = .ok (.goto (-45), 3) := by decide +kernel
theorem dX6_how_119 : decode cX6_how 119 = .ok (.iload 5, 2) := by decide +kernel
theorem dX6_how_121 : decode cX6_how 121 = .ok (.ifCond .ne 6, 3) := by decide +kernel
theorem dX6_how_124 : decode cX6_how 124 = .ok (.iload 7, 2) := by decide +kernel
theorem dX6_how_126 : decode cX6_how 126 = .ok (.ireturn, 1) := by decide +kernel
theorem dX6_how_127 : decode cX6_how 127 = .ok (.iload 7, 2) := by decide +kernel
theorem dX6_how_129 : decode cX6_how 129 = .ok (.ifCond .le 8, 3) := by decide +kernel
theorem dX6_how_132 : decode cX6_how 132 = .ok (.iload 8, 2) := by decide +kernel
theorem dX6_how_134 : decode cX6_how 134 = .ok (.goto 5, 3) := by decide +kernel
theorem dX6_how_137 : decode cX6_how 137 = .ok (.bipush (-4), 2) := by decide +kernel
theorem dX6_how_139 : decode cX6_how 139 = .ok (.ireturn, 1) := by decide +kernel
set_option maxRecDepth 20000 in
theorem ggX6_fresh_X6_isDoor : GoodIn wsX6_fresh wsX6_isDoor := goodIn_r _ [6, 1, 24, 25, 26, 27, 28, 29, 30, 31, 32, 33, 34, 35, 36, 37, 38, 39, 40, 41, 42, 43, 44, 45, 46, 47] (by decide +kernel) (by decide +kernel)
set_option maxRecDepth 20000 in
theorem gX6_fresh_X6_isDoor : GoodIn wsX6_fresh (wsV RX6 98 RX6 yX6_isDoor wsX6_isDoor) := goodIn_app (goodIn_of _ (by decide +kernel)) ggX6_fresh_X6_isDoor
set_option maxRecDepth 20000 in
theorem ggX6_fresh_X6_grudgeAgainstNew : GoodIn wsX6_fresh wsX6_grudgeAgainstNew := goodIn_r _ [10, 1, 11, 12, 13, 14, 15, 16, 17, 18, 19, 20, 21, 22, 5, 23, 24, 25, 26, 27, 28, 29, 30, 31, 32, 33, 34, 35, 36, 37, 38, 39, 40, 41, 42, 43, 44, 45, 46, 47, 48, 49, 50, 51, 52, 53] (by decide +kernel) (by decide +kernel)
set_option maxRecDepth 20000 in
theorem gX6_fresh_X6_grudgeAgainstNew : GoodIn wsX6_fresh (wsV RX6 231 RX6 yX6_grudgeAgainstNew wsX6_grudgeAgainstNew) := goodIn_app (goodIn_of _ (by decide +kernel)) ggX6_fresh_X6_grudgeAgainstNew
theorem dX6_fresh_0 : decode cX6_fresh 0 = .ok (.iload_n 1, 1) := by decide +kernel
theorem dX6_fresh_1 : decode cX6_fresh 1 = .ok (.iconst (-1), 1) := by decide +kernel
theorem dX6_fresh_2 : decode cX6_fresh 2 = .ok (.if_icmp .eq 13, 3) := by decide +kernel
theorem dX6_fresh_5 : decode cX6_fresh 5 = .ok (.aload_n 0, 1) := by decide +kernel
theorem dX6_fresh_6 : decode cX6_fresh 6 = .ok (.iload_n 1, 1) := by decide +kernel
theorem dX6_fresh_7 : decode cX6_fresh 7 = .ok (.invokevirtual 98, 3) := by decide +kernel
theorem dX6_fresh_10 : decode cX6_fresh 10 = .ok (.ifCond .ne 5, 3) := by decide +kernel
theorem dX6_fresh_13 : decode cX6_fresh 13 = .ok (.iconst (-1), 1) := by decide +kernel
theorem dX6_fresh_14 : decode cX6_fresh 14 = .ok (.ireturn, 1) := by decide +kernel
theorem dX6_fresh_15 : decode cX6_fresh 15 = .ok (.iload_n 1, 1) := by decide +kernel
theorem dX6_fresh_16 : decode cX6_fresh 16 = .ok (.ifCond .lt 9, 3) := by decide +kernel
theorem dX6_fresh_19 : decode cX6_fresh 19 = .ok (.aload_n 0, 1) := by decide +kernel
theorem dX6_fresh_20 : decode cX6_fresh 20 = .ok (.iload_n 1, 1) := by decide +kernel
theorem dX6_fresh_21 : decode cX6_fresh 21 = .ok (.invokevirtual 231, 3) := by decide +kernel
theorem dX6_fresh_24 : decode cX6_fresh 24 = .ok (.ireturn, 1) := by decide +kernel
theorem dX6_fresh_25 : decode cX6_fresh 25 = .ok (.iconst 0, 1) := by decide +kernel
theorem dX6_fresh_26 : decode cX6_fresh 26 = .ok (.istore_n 2, 1) := by decide +kernel
theorem dX6_fresh_27 : decode cX6_fresh 27 = .ok (.iconst 1, 1) := by decide +kernel
theorem dX6_fresh_28 : decode cX6_fresh 28 = .ok (.istore_n 3, 1) := by decide +kernel
theorem dX6_fresh_29 : decode cX6_fresh 29 = .ok (.iload_n 3, 1) := by decide +kernel
theorem dX6_fresh_30 : decode cX6_fresh 30 = .ok (.aload_n 0, 1) := by decide +kernel
theorem dX6_fresh_31 : decode cX6_fresh 31 = .ok (.getfield 55, 3) := by decide +kernel
theorem dX6_fresh_34 : decode cX6_fresh 34 = .ok (.getfield 95, 3) := by decide +kernel
theorem dX6_fresh_37 : decode cX6_fresh 37 = .ok (.if_icmp .ge 24, 3) := by decide +kernel
theorem dX6_fresh_40 : decode cX6_fresh 40 = .ok (.aload_n 0, 1) := by decide +kernel
theorem dX6_fresh_41 : decode cX6_fresh 41 = .ok (.iload_n 3, 1) := by decide +kernel
theorem dX6_fresh_42 : decode cX6_fresh 42 = .ok (.invokevirtual 231, 3) := by decide +kernel
theorem dX6_fresh_45 : decode cX6_fresh 45 = .ok (.aload_n 0, 1) := by decide +kernel
theorem dX6_fresh_46 : decode cX6_fresh 46 = .ok (.iload_n 2, 1) := by decide +kernel
theorem dX6_fresh_47 : decode cX6_fresh 47 = .ok (.invokevirtual 231, 3) := by decide +kernel
theorem dX6_fresh_50 : decode cX6_fresh 50 = .ok (.if_icmp .ge 5, 3) := by decide +kernel
theorem dX6_fresh_53 : decode cX6_fresh 53 = .ok (.iload_n 3, 1) := by decide +kernel
theorem dX6_fresh_54 : decode cX6_fresh 54 = .ok (.istore_n 2, 1) := by decide +kernel
theorem dX6_fresh_55 : decode cX6_fresh 55 = .ok (.iinc 3 1, 3) := by decide +kernel
theorem dX6_fresh_58 : decode cX6_fresh 58 = .ok (.goto (-29), 3) := by decide +kernel
theorem dX6_fresh_61 : decode cX6_fresh 61 = .ok (.iload_n 2, 1) := by decide +kernel
theorem dX6_fresh_62 : decode cX6_fresh 62 = .ok (.ireturn, 1) := by decide +kernel
set_option maxRecDepth 20000 in
theorem ggX6_week_X6_within : GoodIn wsX6_week wsX6_within := goodIn_r _ [10] (by decide +kernel) (by decide +kernel)
set_option maxRecDepth 20000 in
theorem gX6_week_X6_within : GoodIn wsX6_week (va_wsS RX6 73 yX6_within wsX6_within) := goodIn_app (goodIn_of _ (by decide +kernel)) ggX6_week_X6_within
set_option maxRecDepth 20000 in
theorem ggX6_week_X0_become : GoodIn wsX6_week wsX0_become := goodIn_r _ [15, 16, 17, 18, 19, 20, 21, 9, 22, 138, 139, 140, 141, 142, 143] (by decide +kernel) (by decide +kernel)
set_option maxRecDepth 20000 in
theorem gX6_week_X0_become : GoodIn wsX6_week (wsV RX6 208 RX0 yX0_become wsX0_become) := goodIn_app (goodIn_of _ (by decide +kernel)) ggX6_week_X0_become
set_option maxRecDepth 20000 in
theorem ggX6_week_X6_goThereAndBack : GoodIn wsX6_week wsX6_goThereAndBack := goodIn_r _ [26, 6, 1, 27, 28, 9, 29, 30, 31, 32, 33, 34, 35, 36, 37, 38, 39, 40, 41, 42, 43, 44, 45, 46, 47, 14, 48, 49, 50, 51, 52, 17, 53, 54, 55, 56, 16, 57, 58, 59, 60, 61, 62, 63, 64, 65, 66, 67, 68, 69, 70, 71, 72, 73, 74, 75, 76, 77, 78, 79, 80, 81, 82, 83, 19, 18, 84, 85, 86, 87, 88, 89, 90, 91, 92, 93, 94, 95, 96, 97, 98, 99, 100, 101, 102, 103, 104, 105, 106, 129, 130, 131, 132, 133, 134, 135, 136, 137, 144, 145, 146, 147, 148, 149, 150, 151, 152, 153, 154, 155, 156, 157, 158, 138, 139, 140, 141, 142, 143, 159, 160] (by decide +kernel) (by decide +kernel)
set_option maxRecDepth 20000 in
theorem gX6_week_X6_goThereAndBack : GoodIn wsX6_week (wsV RX6 240 RX6 yX6_goThereAndBack wsX6_goThereAndBack) := goodIn_app (goodIn_of _ (by decide +kernel)) ggX6_week_X6_goThereAndBack
set_option maxRecDepth 20000 in
theorem ggX6_week_X0_sleep : GoodIn wsX6_week wsX0_sleep := goodIn_r _ [110, 20, 111, 112, 113, 14, 114, 115, 59, 9, 60, 28, 29, 49, 50, 51, 52, 17, 53, 54, 55, 56, 16, 57, 58, 98, 99, 100, 101, 96, 102, 92, 93, 94, 95, 97, 103, 104, 105, 106, 116, 117, 118, 119, 120, 144, 145, 146, 147, 148, 149, 150, 151, 152, 153, 154, 155, 156, 157, 158, 138, 139, 140, 141, 142, 143] (by decide +kernel) (by decide +kernel)
set_option maxRecDepth 20000 in
theorem gX6_week_X0_sleep : GoodIn wsX6_week (wsV RX6 163 RX0 yX0_sleep wsX0_sleep) := goodIn_app (goodIn_of _ (by decide +kernel)) ggX6_week_X0_sleep
set_option maxRecDepth 20000 in
theorem ggX6_week_X0_allGrudges : GoodIn wsX6_week wsX0_allGrudges := goodIn_r _ [124, 125, 126, 127, 14, 128, 53, 54, 55, 56, 16, 28, 9, 29, 144, 145, 146, 147, 148, 149, 150, 151, 152, 153, 154, 155, 156, 157, 158, 138, 139, 140, 141, 142, 143] (by decide +kernel) (by decide +kernel)
set_option maxRecDepth 20000 in
theorem gX6_week_X0_allGrudges : GoodIn wsX6_week (wsV RX6 246 RX0 yX0_allGrudges wsX0_allGrudges) := goodIn_app (goodIn_of _ (by decide +kernel)) ggX6_week_X0_allGrudges
theorem dX6_week_0 : decode cX6_week 0 = .ok (.iload_n 1, 1) := by decide +kernel
theorem dX6_week_1 : decode cX6_week 1 = .ok (.iconst 0, 1) := by decide +kernel
theorem dX6_week_2 : decode cX6_week 2 = .ok (.sipush 9999, 3) := by decide +kernel
theorem dX6_week_5 : decode cX6_week 5 = .ok (.invokestatic 73, 3) := by decide +kernel
theorem dX6_week_8 : decode cX6_week 8 = .ok (.ifCond .eq 22, 3) := by decide +kernel
theorem dX6_week_11 : decode cX6_week 11 = .ok (.iload_n 2, 1) := by decide +kernel
theorem dX6_week_12 : decode cX6_week 12 = .ok (.iconst 1, 1) := by decide +kernel
theorem dX6_week_13 : decode cX6_week 13 = .ok (.bipush 60, 2) := by decide +kernel
theorem dX6_week_15 : decode cX6_week 15 = .ok (.invokestatic 73, 3) := by decide +kernel
theorem dX6_week_18 : decode cX6_week 18 = .ok (.ifCond .eq 12, 3) := by decide +kernel
theorem dX6_week_21 : decode cX6_week 21 = .ok (.iload_n 3, 1) := by decide +kernel
theorem dX6_week_22 : decode cX6_week 22 = .ok (.iconst 0, 1) := by decide +kernel
theorem dX6_week_23 : decode cX6_week 23 = .ok (.iconst 1, 1) := by decide +kernel
theorem dX6_week_24 : decode cX6_week 24 = .ok (.invokestatic 73, 3) := by decide +kernel
theorem dX6_week_27 : decode cX6_week 27 = .ok (.ifCond .ne 5, 3) := by decide +kernel
theorem dX6_week_30 : decode cX6_week 30 = .ok (.iconst (-1), 1) := by decide +kernel
theorem dX6_week_31 : decode cX6_week 31 = .ok (.ireturn, 1) := by decide +kernel
theorem dX6_week_32 : decode cX6_week 32 = .ok (.aload_n 0, 1) := by decide +kernel
theorem dX6_week_33 : decode cX6_week 33 = .ok (.getfield 23, 3) := by decide +kernel
theorem dX6_week_36 : decode cX6_week 36 = .ok (.aload_n 0, 1) := by decide +kernel
theorem dX6_week_37 : decode cX6_week 37 = .ok (.getfield 19, 3) := by decide +kernel
theorem dX6_week_40 : decode cX6_week 40 = .ok (.invokevirtual 208, 3) := by decide +kernel
theorem dX6_week_43 : decode cX6_week 43 = .ok (.iconst 0, 1) := by decide +kernel
theorem dX6_week_44 : decode cX6_week 44 = .ok (.istore 4, 2) := by decide +kernel
theorem dX6_week_46 : decode cX6_week 46 = .ok (.iload 4, 2) := by decide +kernel
theorem dX6_week_48 : decode cX6_week 48 = .ok (.iload_n 2, 1) := by decide +kernel
theorem dX6_week_49 : decode cX6_week 49 = .ok (.if_icmp .ge 52, 3) := by decide +kernel
theorem dX6_week_52 : decode cX6_week 52 = .ok (.ldc2_w 234, 3) := by decide +kernel
theorem dX6_week_55 : decode cX6_week 55 = .ok (.iload_n 1, 1) := by decide +kernel
theorem dX6_week_56 : decode cX6_week 56 = .ok (.i2l, 1) := by decide +kernel
theorem dX6_week_57 : decode cX6_week 57 = .ok (.lmul, 1) := by decide +kernel
theorem dX6_week_58 : decode cX6_week 58 = .ok (.ldc2_w 236, 3) := by decide +kernel
theorem dX6_week_61 : decode cX6_week 61 = .ok (.iload 4, 2) := by decide +kernel
theorem dX6_week_63 : decode cX6_week 63 = .ok (.i2l, 1) := by decide +kernel
theorem dX6_week_64 : decode cX6_week 64 = .ok (.lmul, 1) := by decide +kernel
theorem dX6_week_65 : decode cX6_week 65 = .ok (.ladd, 1) := by decide +kernel
theorem dX6_week_66 : decode cX6_week 66 = .ok (.lconst 1, 1) := by decide +kernel
theorem dX6_week_67 : decode cX6_week 67 = .ok (.ladd, 1) := by decide +kernel
theorem dX6_week_68 : decode cX6_week 68 = .ok (.lstore 5, 2) := by decide +kernel
theorem dX6_week_70 : decode cX6_week 70 = .ok (.aload_n 0, 1) := by decide +kernel
theorem dX6_week_71 : decode cX6_week 71 = .ok (.lload 5, 2) := by decide +kernel
theorem dX6_week_73 : decode cX6_week 73 = .ok (.lload 5, 2) := by decide +kernel
theorem dX6_week_75 : decode cX6_week 75 = .ok (.lmul, 1) := by decide +kernel
theorem dX6_week_76 : decode cX6_week 76 = .ok (.ldc2_w 238, 3) := by decide +kernel
theorem dX6_week_79 : decode cX6_week 79 = .ok (.lrem, 1) := by decide +kernel
theorem dX6_week_80 : decode cX6_week 80 = .ok (.l2i, 1) := by decide +kernel
theorem dX6_week_81 : decode cX6_week 81 = .ok (.invokevirtual 240, 3) := by decide +kernel
theorem dX6_week_84 : decode cX6_week 84 = .ok (.aload_n 0, 1) := by decide +kernel
theorem dX6_week_85 : decode cX6_week 85 = .ok (.getfield 23, 3) := by decide +kernel
theorem dX6_week_88 : decode cX6_week 88 = .ok (.aload_n 0, 1) := by decide +kernel
theorem dX6_week_89 : decode cX6_week 89 = .ok (.getfield 55, 3) := by decide +kernel
theorem dX6_week_92 : decode cX6_week 92 = .ok (.invokevirtual 163, 3) := by decide +kernel
theorem dX6_week_95 : decode cX6_week 95 = .ok (.iinc 4 1, 3) := by decide +kernel
theorem dX6_week_98 : decode cX6_week 98 = .ok (.goto (-52), 3) := by decide +kernel
theorem dX6_week_101 : decode cX6_week 101 = .ok (.iload_n 3, 1) := by decide +kernel
theorem dX6_week_102 : decode cX6_week 102 = .ok (.ifCond .ne 21, 3) := by decide +kernel
theorem dX6_week_105 : decode cX6_week 105 = .ok (.aload_n 0, 1) := by decide +kernel
theorem dX6_week_106 : decode cX6_week 106 = .ok (.getfield 23, 3) := by decide +kernel
theorem dX6_week_109 : decode cX6_week 109 = .ok (.getfield 243, 3) := by decide +kernel
theorem dX6_week_112 : decode cX6_week 112 = .ok (.aload_n 0, 1) := by decide +kernel
theorem dX6_week_113 : decode cX6_week 113 = .ok (.getfield 19, 3) := by decide +kernel
theorem dX6_week_116 : decode cX6_week 116 = .ok (.getfield 243, 3) := by decide +kernel
theorem dX6_week_119 : decode cX6_week 119 = .ok (.isub, 1) := by decide +kernel
theorem dX6_week_120 : decode cX6_week 120 = .ok (.goto 14, 3) := by decide +kernel
theorem dX6_week_123 : decode cX6_week 123 = .ok (.aload_n 0, 1) := by decide +kernel
theorem dX6_week_124 : decode cX6_week 124 = .ok (.getfield 23, 3) := by decide +kernel
theorem dX6_week_127 : decode cX6_week 127 = .ok (.aload_n 0, 1) := by decide +kernel
theorem dX6_week_128 : decode cX6_week 128 = .ok (.getfield 55, 3) := by decide +kernel
theorem dX6_week_131 : decode cX6_week 131 = .ok (.invokevirtual 246, 3) := by decide +kernel
theorem dX6_week_134 : decode cX6_week 134 = .ok (.ireturn, 1) := by decide +kernel
set_option maxRecDepth 20000 in
theorem ggX6_keep_X1_push : GoodIn wsX6_keep wsX1_push := goodIn_r _ [7, 8, 9, 10, 11, 12, 6, 13, 14, 15, 16, 17, 18, 19, 20, 21, 22, 23, 24, 25, 26, 27, 28, 29, 30, 40, 41, 42, 43, 44, 45, 46, 47] (by decide +kernel) (by decide +kernel)
set_option maxRecDepth 20000 in
theorem gX6_keep_X1_push : GoodIn wsX6_keep (wsV RX6 141 RX1 yX1_push wsX1_push) := goodIn_app (goodIn_of _ (by decide +kernel)) ggX6_keep_X1_push
theorem dX6_keep_0 : decode cX6_keep 0 = .ok (.aload_n 0, 1) := by decide +kernel
theorem dX6_keep_1 : decode cX6_keep 1 = .ok (.getfield 35, 3) := by decide +kernel
theorem dX6_keep_4 : decode cX6_keep 4 = .ok (.getfield 170, 3) := by decide +kernel
theorem dX6_keep_7 : decode cX6_keep 7 = .ok (.iconst 2, 1) := by decide +kernel
theorem dX6_keep_8 : decode cX6_keep 8 = .ok (.if_icmp .lt 6, 3) := by decide +kernel
theorem dX6_keep_11 : decode cX6_keep 11 = .ok (.bipush (-3), 2) := by decide +kernel
theorem dX6_keep_13 : decode cX6_keep 13 = .ok (.ireturn, 1) := by decide +kernel
theorem dX6_keep_14 : decode cX6_keep 14 = .ok (.aload_n 0, 1) := by decide +kernel
theorem dX6_keep_15 : decode cX6_keep 15 = .ok (.getfield 35, 3) := by decide +kernel
theorem dX6_keep_18 : decode cX6_keep 18 = .ok (.aload_n 0, 1) := by decide +kernel
theorem dX6_keep_19 : decode cX6_keep 19 = .ok (.getfield 19, 3) := by decide +kernel
theorem dX6_keep_22 : decode cX6_keep 22 = .ok (.invokevirtual 141, 3) := by decide +kernel
theorem dX6_keep_25 : decode cX6_keep 25 = .ok (.aload_n 0, 1) := by decide +kernel
theorem dX6_keep_26 : decode cX6_keep 26 = .ok (.getfield 35, 3) := by decide +kernel
theorem dX6_keep_29 : decode cX6_keep 29 = .ok (.getfield 170, 3) := by decide +kernel
theorem dX6_keep_32 : decode cX6_keep 32 = .ok (.ireturn, 1) := by decide +kernel
set_option maxRecDepth 20000 in
theorem ggX6_back_X1_pop : GoodIn wsX6_back wsX1_pop := goodIn_r _ [8, 9, 10, 11, 12, 7, 13, 14, 15, 16, 17, 18, 19, 20, 21, 22, 23, 24, 25, 26, 27, 41, 42, 43, 44, 45, 46, 47, 48] (by decide +kernel) (by decide +kernel)
set_option maxRecDepth 20000 in
theorem gX6_back_X1_pop : GoodIn wsX6_back (wsV RX6 166 RX1 yX1_pop wsX1_pop) := goodIn_app (goodIn_of _ (by decide +kernel)) ggX6_back_X1_pop
set_option maxRecDepth 20000 in
theorem ggX6_back_X1_forgetAll : GoodIn wsX6_back wsX1_forgetAll := goodIn_r _ [31, 9, 41, 42] (by decide +kernel) (by decide +kernel)
set_option maxRecDepth 20000 in
theorem gX6_back_X1_forgetAll : GoodIn wsX6_back (wsV RX6 92 RX1 yX1_forgetAll wsX1_forgetAll) := goodIn_app (goodIn_of _ (by decide +kernel)) ggX6_back_X1_forgetAll
theorem dX6_back_0 : decode cX6_back 0 = .ok (.aload_n 0, 1) := by decide +kernel
theorem dX6_back_1 : decode cX6_back 1 = .ok (.getfield 35, 3) := by decide +kernel
theorem dX6_back_4 : decode cX6_back 4 = .ok (.aload_n 0, 1) := by decide +kernel
theorem dX6_back_5 : decode cX6_back 5 = .ok (.getfield 19, 3) := by decide +kernel
theorem dX6_back_8 : decode cX6_back 8 = .ok (.invokevirtual 166, 3) := by decide +kernel
theorem dX6_back_11 : decode cX6_back 11 = .ok (.ifCond .ne 6, 3) := by decide +kernel
theorem dX6_back_14 : decode cX6_back 14 = .ok (.bipush (-2), 2) := by decide +kernel
theorem dX6_back_16 : decode cX6_back 16 = .ok (.ireturn, 1) := by decide +kernel
theorem dX6_back_17 : decode cX6_back 17 = .ok (.aload_n 0, 1) := by decide +kernel
theorem dX6_back_18 : decode cX6_back 18 = .ok (.getfield 31, 3) := by decide +kernel
theorem dX6_back_21 : decode cX6_back 21 = .ok (.invokevirtual 92, 3) := by decide +kernel
theorem dX6_back_24 : decode cX6_back 24 = .ok (.aload_n 0, 1) := by decide +kernel
theorem dX6_back_25 : decode cX6_back 25 = .ok (.getfield 35, 3) := by decide +kernel
theorem dX6_back_28 : decode cX6_back 28 = .ok (.getfield 170, 3) := by decide +kernel
theorem dX6_back_31 : decode cX6_back 31 = .ok (.ireturn, 1) := by decide +kernel
theorem dX6_count_0 : decode cX6_count 0 = .ok (.iload_n 1, 1) := by decide +kernel
theorem dX6_count_1 : decode cX6_count 1 = .ok (.tableswitch 111 0 7 #[47, 55, 63, 71, 79, 87, 95, 103], 47) := by decide +kernel
theorem dX6_count_48 : decode cX6_count 48 = .ok (.aload_n 0, 1) := by decide +kernel
theorem dX6_count_49 : decode cX6_count 49 = .ok (.getfield 55, 3) := by decide +kernel
theorem dX6_count_52 : decode cX6_count 52 = .ok (.getfield 249, 3) := by decide +kernel
theorem dX6_count_55 : decode cX6_count 55 = .ok (.ireturn, 1) := by decide +kernel
theorem dX6_count_56 : decode cX6_count 56 = .ok (.aload_n 0, 1) := by decide +kernel
theorem dX6_count_57 : decode cX6_count 57 = .ok (.getfield 55, 3) := by decide +kernel
theorem dX6_count_60 : decode cX6_count 60 = .ok (.getfield 95, 3) := by decide +kernel
theorem dX6_count_63 : decode cX6_count 63 = .ok (.ireturn, 1) := by decide +kernel
theorem dX6_count_64 : decode cX6_count 64 = .ok (.aload_n 0, 1) := by decide +kernel
theorem dX6_count_65 : decode cX6_count 65 = .ok (.getfield 55, 3) := by decide +kernel
theorem dX6_count_68 : decode cX6_count 68 = .ok (.getfield 252, 3) := by decide +kernel
theorem dX6_count_71 : decode cX6_count 71 = .ok (.ireturn, 1) := by decide +kernel
theorem dX6_count_72 : decode cX6_count 72 = .ok (.aload_n 0, 1) := by decide +kernel
theorem dX6_count_73 : decode cX6_count 73 = .ok (.getfield 19, 3) := by decide +kernel
theorem dX6_count_76 : decode cX6_count 76 = .ok (.getfield 243, 3) := by decide +kernel
theorem dX6_count_79 : decode cX6_count 79 = .ok (.ireturn, 1) := by decide +kernel
theorem dX6_count_80 : decode cX6_count 80 = .ok (.aload_n 0, 1) := by decide +kernel
theorem dX6_count_81 : decode cX6_count 81 = .ok (.getfield 19, 3) := by decide +kernel
theorem dX6_count_84 : decode cX6_count 84 = .ok (.getfield 160, 3) := by decide +kernel
theorem dX6_count_87 : decode cX6_count 87 = .ok (.ireturn, 1) := by decide +kernel
theorem dX6_count_88 : decode cX6_count 88 = .ok (.aload_n 0, 1) := by decide +kernel
theorem dX6_count_89 : decode cX6_count 89 = .ok (.getfield 31, 3) := by decide +kernel
theorem dX6_count_92 : decode cX6_count 92 = .ok (.getfield 170, 3) := by decide +kernel
theorem dX6_count_95 : decode cX6_count 95 = .ok (.ireturn, 1) := by decide +kernel
theorem dX6_count_96 : decode cX6_count 96 = .ok (.aload_n 0, 1) := by decide +kernel
theorem dX6_count_97 : decode cX6_count 97 = .ok (.getfield 35, 3) := by decide +kernel
theorem dX6_count_100 : decode cX6_count 100 = .ok (.getfield 170, 3) := by decide +kernel
theorem dX6_count_103 : decode cX6_count 103 = .ok (.ireturn, 1) := by decide +kernel
theorem dX6_count_104 : decode cX6_count 104 = .ok (.aload_n 0, 1) := by decide +kernel
theorem dX6_count_105 : decode cX6_count 105 = .ok (.getfield 10, 3) := by decide +kernel
theorem dX6_count_108 : decode cX6_count 108 = .ok (.getfield 77, 3) := by decide +kernel
theorem dX6_count_111 : decode cX6_count 111 = .ok (.ireturn, 1) := by decide +kernel
theorem dX6_count_112 : decode cX6_count 112 = .ok (.iconst (-1), 1) := by decide +kernel
theorem dX6_count_113 : decode cX6_count 113 = .ok (.ireturn, 1) := by decide +kernel
theorem dX6_isRoom_0 : decode cX6_isRoom 0 = .ok (.iload_n 1, 1) := by decide +kernel
theorem dX6_isRoom_1 : decode cX6_isRoom 1 = .ok (.ifCond .lt 18, 3) := by decide +kernel
theorem dX6_isRoom_4 : decode cX6_isRoom 4 = .ok (.iload_n 1, 1) := by decide +kernel
theorem dX6_isRoom_5 : decode cX6_isRoom 5 = .ok (.aload_n 0, 1) := by decide +kernel
theorem dX6_isRoom_6 : decode cX6_isRoom 6 = .ok (.getfield 55, 3) := by decide +kernel
theorem dX6_isRoom_9 : decode cX6_isRoom 9 = .ok (.getfield 249, 3) := by decide +kernel
theorem dX6_isRoom_12 : decode cX6_isRoom 12 = .ok (.if_icmp .ge 7, 3) := by decide +kernel
theorem dX6_isRoom_15 : decode cX6_isRoom 15 = .ok (.iconst 1, 1) := by decide +kernel
theorem dX6_isRoom_16 : decode cX6_isRoom 16 = .ok (.goto 4, 3) := by decide +kernel
theorem dX6_isRoom_19 : decode cX6_isRoom 19 = .ok (.iconst 0, 1) := by decide +kernel
theorem dX6_isRoom_20 : decode cX6_isRoom 20 = .ok (.ireturn, 1) := by decide +kernel
theorem dX6_isDoor_0 : decode cX6_isDoor 0 = .ok (.iload_n 1, 1) := by decide +kernel
theorem dX6_isDoor_1 : decode cX6_isDoor 1 = .ok (.ifCond .lt 18, 3) := by decide +kernel
theorem dX6_isDoor_4 : decode cX6_isDoor 4 = .ok (.iload_n 1, 1) := by decide +kernel
theorem dX6_isDoor_5 : decode cX6_isDoor 5 = .ok (.aload_n 0, 1) := by decide +kernel
theorem dX6_isDoor_6 : decode cX6_isDoor 6 = .ok (.getfield 55, 3) := by decide +kernel
theorem dX6_isDoor_9 : decode cX6_isDoor 9 = .ok (.getfield 95, 3) := by decide +kernel
theorem dX6_isDoor_12 : decode cX6_isDoor 12 = .ok (.if_icmp .ge 7, 3) := by decide +kernel
theorem dX6_isDoor_15 : decode cX6_isDoor 15 = .ok (.iconst 1, 1) := by decide +kernel
theorem dX6_isDoor_16 : decode cX6_isDoor 16 = .ok (.goto 4, 3) := by decide +kernel
theorem dX6_isDoor_19 : decode cX6_isDoor 19 = .ok (.iconst 0, 1) := by decide +kernel
theorem dX6_isDoor_20 : decode cX6_isDoor 20 = .ok (.ireturn, 1) := by decide +kernel
theorem dX6_isLodger_0 : decode cX6_isLodger 0 = .ok (.iload_n 1, 1) := by decide +kernel
theorem dX6_isLodger_1 : decode cX6_isLodger 1 = .ok (.ifCond .lt 18, 3) := by decide +kernel
theorem dX6_isLodger_4 : decode cX6_isLodger 4 = .ok (.iload_n 1, 1) := by decide +kernel
theorem dX6_isLodger_5 : decode cX6_isLodger 5 = .ok (.aload_n 0, 1) := by decide +kernel
theorem dX6_isLodger_6 : decode cX6_isLodger 6 = .ok (.getfield 55, 3) := by decide +kernel
theorem dX6_isLodger_9 : decode cX6_isLodger 9 = .ok (.getfield 252, 3) := by decide +kernel
theorem dX6_isLodger_12 : decode cX6_isLodger 12 = .ok (.if_icmp .ge 7, 3) := by decide +kernel
theorem dX6_isLodger_15 : decode cX6_isLodger 15 = .ok (.iconst 1, 1) := by decide +kernel
theorem dX6_isLodger_16 : decode cX6_isLodger 16 = .ok (.goto 4, 3) := by decide +kernel
theorem dX6_isLodger_19 : decode cX6_isLodger 19 = .ok (.iconst 0, 1) := by decide +kernel
theorem dX6_isLodger_20 : decode cX6_isLodger 20 = .ok (.ireturn, 1) := by decide +kernel
set_option maxRecDepth 20000 in
theorem ggX6_isInTimeWith_X6_at : GoodIn wsX6_isInTimeWith wsX6_at := goodIn_r _ [7] (by decide +kernel) (by decide +kernel)
set_option maxRecDepth 20000 in
theorem gX6_isInTimeWith_X6_at : GoodIn wsX6_isInTimeWith (va_wsS RX6 106 yX6_at wsX6_at) := goodIn_app (goodIn_of _ (by decide +kernel)) ggX6_isInTimeWith_X6_at
set_option maxRecDepth 20000 in
theorem ggX6_isInTimeWith_X5_measure : GoodIn wsX6_isInTimeWith wsX5_measure := goodIn_r _ [12, 13, 14, 15, 16, 6, 17, 18, 19, 20, 21, 22, 23, 24, 25, 26, 27, 5, 7, 28, 29, 30, 31, 32, 33, 34, 35, 36, 37, 38, 39, 11, 40, 54, 55, 56, 57, 58, 59, 60, 61, 62, 63, 64, 65, 66, 67, 68, 75, 76, 69, 70, 71, 72, 73, 74] (by decide +kernel) (by decide +kernel)
set_option maxRecDepth 20000 in
theorem gX6_isInTimeWith_X5_measure : GoodIn wsX6_isInTimeWith (wsV RX6 176 RX5 yX5_measure wsX5_measure) := goodIn_app (goodIn_of _ (by decide +kernel)) ggX6_isInTimeWith_X5_measure
set_option maxRecDepth 20000 in
theorem ggX6_isInTimeWith_X5_minutesFrom : GoodIn wsX6_isInTimeWith wsX5_minutesFrom := goodIn_r _ [44, 14, 15, 5, 6, 7, 75, 76] (by decide +kernel) (by decide +kernel)
set_option maxRecDepth 20000 in
theorem gX6_isInTimeWith_X5_minutesFrom : GoodIn wsX6_isInTimeWith (wsV RX6 180 RX5 yX5_minutesFrom wsX5_minutesFrom) := goodIn_app (goodIn_of _ (by decide +kernel)) ggX6_isInTimeWith_X5_minutesFrom
theorem dX6_isInTimeWith_0 : decode cX6_isInTimeWith 0 = .ok (.aload_n 0, 1) := by decide +kernel
theorem dX6_isInTimeWith_1 : decode cX6_isInTimeWith 1 = .ok (.getfield 41, 3) := by decide +kernel
theorem dX6_isInTimeWith_4 : decode cX6_isInTimeWith 4 = .ok (.aload_n 0, 1) := by decide +kernel
theorem dX6_isInTimeWith_5 : decode cX6_isInTimeWith 5 = .ok (.getfield 55, 3) := by decide +kernel
theorem dX6_isInTimeWith_8 : decode cX6_isInTimeWith 8 = .ok (.aload_n 0, 1) := by decide +kernel
theorem dX6_isInTimeWith_9 : decode cX6_isInTimeWith 9 = .ok (.getfield 19, 3) := by decide +kernel
theorem dX6_isInTimeWith_12 : decode cX6_isInTimeWith 12 = .ok (.iload_n 2, 1) := by decide +kernel
theorem dX6_isInTimeWith_13 : decode cX6_isInTimeWith 13 = .ok (.aload_n 0, 1) := by decide +kernel
theorem dX6_isInTimeWith_14 : decode cX6_isInTimeWith 14 = .ok (.getfield 55, 3) := by decide +kernel
theorem dX6_isInTimeWith_17 : decode cX6_isInTimeWith 17 = .ok (.getfield 131, 3) := by decide +kernel
theorem dX6_isInTimeWith_20 : decode cX6_isInTimeWith 20 = .ok (.iload_n 2, 1) := by decide +kernel
theorem dX6_isInTimeWith_21 : decode cX6_isInTimeWith 21 = .ok (.invokestatic 106, 3) := by decide +kernel
theorem dX6_isInTimeWith_24 : decode cX6_isInTimeWith 24 = .ok (.iload_n 1, 1) := by decide +kernel
theorem dX6_isInTimeWith_25 : decode cX6_isInTimeWith 25 = .ok (.invokevirtual 176, 3) := by decide +kernel
theorem dX6_isInTimeWith_28 : decode cX6_isInTimeWith 28 = .ok (.aload_n 0, 1) := by decide +kernel
theorem dX6_isInTimeWith_29 : decode cX6_isInTimeWith 29 = .ok (.getfield 41, 3) := by decide +kernel
theorem dX6_isInTimeWith_32 : decode cX6_isInTimeWith 32 = .ok (.aload_n 0, 1) := by decide +kernel
theorem dX6_isInTimeWith_33 : decode cX6_isInTimeWith 33 = .ok (.getfield 19, 3) := by decide +kernel
theorem dX6_isInTimeWith_36 : decode cX6_isInTimeWith 36 = .ok (.getfield 125, 3) := by decide +kernel
theorem dX6_isInTimeWith_39 : decode cX6_isInTimeWith 39 = .ok (.iload_n 2, 1) := by decide +kernel
theorem dX6_isInTimeWith_40 : decode cX6_isInTimeWith 40 = .ok (.invokestatic 106, 3) := by decide +kernel
theorem dX6_isInTimeWith_43 : decode cX6_isInTimeWith 43 = .ok (.invokevirtual 180, 3) := by decide +kernel
theorem dX6_isInTimeWith_46 : decode cX6_isInTimeWith 46 = .ok (.istore 4, 2) := by decide +kernel
theorem dX6_isInTimeWith_48 : decode cX6_isInTimeWith 48 = .ok (.iload 4, 2) := by decide +kernel
theorem dX6_isInTimeWith_50 : decode cX6_isInTimeWith 50 = .ok (.ifCond .lt 13, 3) := by decide +kernel
theorem dX6_isInTimeWith_53 : decode cX6_isInTimeWith 53 = .ok (.iload 4, 2) := by decide +kernel
theorem dX6_isInTimeWith_55 : decode cX6_isInTimeWith 55 = .ok (.iload_n 3, 1) := by decide +kernel
theorem dX6_isInTimeWith_56 : decode cX6_isInTimeWith 56 = .ok (.if_icmp .gt 7, 3) := by decide +kernel
theorem dX6_isInTimeWith_59 : decode cX6_isInTimeWith 59 = .ok (.iconst 1, 1) := by decide +kernel
theorem dX6_isInTimeWith_60 : decode cX6_isInTimeWith 60 = .ok (.goto 4, 3) := by decide +kernel
theorem dX6_isInTimeWith_63 : decode cX6_isInTimeWith 63 = .ok (.iconst 0, 1) := by decide +kernel
theorem dX6_isInTimeWith_64 : decode cX6_isInTimeWith 64 = .ok (.ireturn, 1) := by decide +kernel
set_option maxRecDepth 20000 in
theorem ggX6_grudgeBehindWith_X0_become : GoodIn wsX6_grudgeBehindWith wsX0_become := goodIn_r _ [8, 9, 10, 11, 12, 13, 14, 15, 16, 89, 90, 91, 92, 93, 94] (by decide +kernel) (by decide +kernel)
set_option maxRecDepth 20000 in
theorem gX6_grudgeBehindWith_X0_become : GoodIn wsX6_grudgeBehindWith (wsV RX6 208 RX0 yX0_become wsX0_become) := goodIn_app (goodIn_of _ (by decide +kernel)) ggX6_grudgeBehindWith_X0_become
set_option maxRecDepth 20000 in
theorem ggX6_grudgeBehindWith_X6_holds : GoodIn wsX6_grudgeBehindWith wsX6_holds := goodIn_r _ [19] (by decide +kernel) (by decide +kernel)
set_option maxRecDepth 20000 in
theorem gX6_grudgeBehindWith_X6_holds : GoodIn wsX6_grudgeBehindWith (va_wsS RX6 215 yX6_holds wsX6_holds) := goodIn_app (goodIn_of _ (by decide +kernel)) ggX6_grudgeBehindWith_X6_holds
set_option maxRecDepth 20000 in
theorem ggX6_grudgeBehindWith_X6_put : GoodIn wsX6_grudgeBehindWith wsX6_put := goodIn_r _ [22] (by decide +kernel) (by decide +kernel)
set_option maxRecDepth 20000 in
theorem gX6_grudgeBehindWith_X6_put : GoodIn wsX6_grudgeBehindWith (va_wsS RX6 152 yX6_put wsX6_put) := goodIn_app (goodIn_of _ (by decide +kernel)) ggX6_grudgeBehindWith_X6_put
set_option maxRecDepth 20000 in
theorem ggX6_grudgeBehindWith_X0_sleepAgainstOne : GoodIn wsX6_grudgeBehindWith wsX0_sleepAgainstOne := goodIn_r _ [26, 27, 28, 29, 7, 30, 31, 32, 15, 33, 34, 35, 36, 37, 38, 39, 10, 40, 41, 42, 43, 9, 21, 22, 44, 45, 46, 47, 48, 49, 50, 51, 52, 53, 54, 55, 56, 57, 58, 59, 60, 61, 62, 63, 89, 90, 91, 92, 93, 94, 74, 75, 76, 77, 78, 79, 80, 81, 82, 83, 84, 85, 86, 87, 88] (by decide +kernel) (by decide +kernel)
set_option maxRecDepth 20000 in
theorem gX6_grudgeBehindWith_X0_sleepAgainstOne : GoodIn wsX6_grudgeBehindWith (wsV RX6 211 RX0 yX0_sleepAgainstOne wsX0_sleepAgainstOne) := goodIn_app (goodIn_of _ (by decide +kernel)) ggX6_grudgeBehindWith_X0_sleepAgainstOne
set_option maxRecDepth 20000 in
theorem ggX6_grudgeBehindWith_X0_grudgeOf : GoodIn wsX6_grudgeBehindWith wsX0_grudgeOf := goodIn_r _ [43, 9, 34, 15, 35, 89, 90, 91, 92, 93, 94] (by decide +kernel) (by decide +kernel)
set_option maxRecDepth 20000 in
theorem gX6_grudgeBehindWith_X0_grudgeOf : GoodIn wsX6_grudgeBehindWith (wsV RX6 134 RX0 yX0_grudgeOf wsX0_grudgeOf) := goodIn_app (goodIn_of _ (by decide +kernel)) ggX6_grudgeBehindWith_X0_grudgeOf
theorem dX6_grudgeBehindWith_0 : decode cX6_grudgeBehindWith 0 = .ok (.aload_n 0, 1) := by decide +kernel
theorem dX6_grudgeBehindWith_1 : decode cX6_grudgeBehindWith 1 = .ok (.getfield 23, 3) := by decide +kernel
theorem dX6_grudgeBehindWith_4 : decode cX6_grudgeBehindWith 4 = .ok (.aload_n 0, 1) := by decide +kernel
theorem dX6_grudgeBehindWith_5 : decode cX6_grudgeBehindWith 5 = .ok (.getfield 19, 3) := by decide +kernel
theorem dX6_grudgeBehindWith_8 : decode cX6_grudgeBehindWith 8 = .ok (.invokevirtual 208, 3) := by decide +kernel
theorem dX6_grudgeBehindWith_11 : decode cX6_grudgeBehindWith 11 = .ok (.iconst 0, 1) := by decide +kernel
theorem dX6_grudgeBehindWith_12 : decode cX6_grudgeBehindWith 12 = .ok (.istore 5, 2) := by decide +kernel
theorem dX6_grudgeBehindWith_14 : decode cX6_grudgeBehindWith 14 = .ok (.iload 5, 2) := by decide +kernel
theorem dX6_grudgeBehindWith_16 : decode cX6_grudgeBehindWith 16 = .ok (.aload_n 0, 1) := by decide +kernel
theorem dX6_grudgeBehindWith_17 : decode cX6_grudgeBehindWith 17 = .ok (.getfield 55, 3) := by decide +kernel
theorem dX6_grudgeBehindWith_20 : decode cX6_grudgeBehindWith 20 = .ok (.getfield 95, 3) := by decide +kernel
theorem dX6_grudgeBehindWith_23 : decode cX6_grudgeBehindWith 23 = .ok (.if_icmp .ge 33, 3) := by decide +kernel
theorem dX6_grudgeBehindWith_26 : decode cX6_grudgeBehindWith 26 = .ok (.iload_n 1, 1) := by decide +kernel
theorem dX6_grudgeBehindWith_27 : decode cX6_grudgeBehindWith 27 = .ok (.iload 5, 2) := by decide +kernel
theorem dX6_grudgeBehindWith_29 : decode cX6_grudgeBehindWith 29 = .ok (.invokestatic 215, 3) := by decide +kernel
theorem dX6_grudgeBehindWith_32 : decode cX6_grudgeBehindWith 32 = .ok (.ifCond .eq 18, 3) := by decide +kernel
theorem dX6_grudgeBehindWith_35 : decode cX6_grudgeBehindWith 35 = .ok (.aload_n 0, 1) := by decide +kernel
theorem dX6_grudgeBehindWith_36 : decode cX6_grudgeBehindWith 36 = .ok (.getfield 23, 3) := by decide +kernel
theorem dX6_grudgeBehindWith_39 : decode cX6_grudgeBehindWith 39 = .ok (.getfield 116, 3) := by decide +kernel
theorem dX6_grudgeBehindWith_42 : decode cX6_grudgeBehindWith 42 = .ok (.iload 5, 2) := by decide +kernel
theorem dX6_grudgeBehindWith_44 : decode cX6_grudgeBehindWith 44 = .ok (.iload_n 2, 1) := by decide +kernel
theorem dX6_grudgeBehindWith_45 : decode cX6_grudgeBehindWith 45 = .ok (.iconst 1, 1) := by decide +kernel
theorem dX6_grudgeBehindWith_46 : decode cX6_grudgeBehindWith 46 = .ok (.iadd, 1) := by decide +kernel
theorem dX6_grudgeBehindWith_47 : decode cX6_grudgeBehindWith 47 = .ok (.invokestatic 152, 3) := by decide +kernel
theorem dX6_grudgeBehindWith_50 : decode cX6_grudgeBehindWith 50 = .ok (.iinc 5 1, 3) := by decide +kernel
theorem dX6_grudgeBehindWith_53 : decode cX6_grudgeBehindWith 53 = .ok (.goto (-39), 3) := by decide +kernel
theorem dX6_grudgeBehindWith_56 : decode cX6_grudgeBehindWith 56 = .ok (.aload_n 0, 1) := by decide +kernel
theorem dX6_grudgeBehindWith_57 : decode cX6_grudgeBehindWith 57 = .ok (.getfield 23, 3) := by decide +kernel
theorem dX6_grudgeBehindWith_60 : decode cX6_grudgeBehindWith 60 = .ok (.aload_n 0, 1) := by decide +kernel
theorem dX6_grudgeBehindWith_61 : decode cX6_grudgeBehindWith 61 = .ok (.getfield 55, 3) := by decide +kernel
theorem dX6_grudgeBehindWith_64 : decode cX6_grudgeBehindWith 64 = .ok (.iload_n 2, 1) := by decide +kernel
theorem dX6_grudgeBehindWith_65 : decode cX6_grudgeBehindWith 65 = .ok (.iload 4, 2) := by decide +kernel
theorem dX6_grudgeBehindWith_67 : decode cX6_grudgeBehindWith 67 = .ok (.invokevirtual 211, 3) := by decide +kernel
theorem dX6_grudgeBehindWith_70 : decode cX6_grudgeBehindWith 70 = .ok (.aload_n 0, 1) := by decide +kernel
theorem dX6_grudgeBehindWith_71 : decode cX6_grudgeBehindWith 71 = .ok (.getfield 23, 3) := by decide +kernel
theorem dX6_grudgeBehindWith_74 : decode cX6_grudgeBehindWith 74 = .ok (.iload_n 3, 1) := by decide +kernel
theorem dX6_grudgeBehindWith_75 : decode cX6_grudgeBehindWith 75 = .ok (.iload 4, 2) := by decide +kernel
theorem dX6_grudgeBehindWith_77 : decode cX6_grudgeBehindWith 77 = .ok (.invokevirtual 134, 3) := by decide +kernel
theorem dX6_grudgeBehindWith_80 : decode cX6_grudgeBehindWith 80 = .ok (.ireturn, 1) := by decide +kernel
set_option maxRecDepth 20000 in
theorem ggX6_grudgeAgainstNew_X0_grudgesOfDoor : GoodIn wsX6_grudgeAgainstNew wsX0_grudgesOfDoor := goodIn_r _ [7, 8, 9, 10, 6, 11, 12, 13, 14, 15, 25, 26, 27, 28, 29, 30, 31, 32, 33, 34, 35, 36, 37, 38, 39, 40, 41, 42, 43, 44, 45] (by decide +kernel) (by decide +kernel)
set_option maxRecDepth 20000 in
theorem gX6_grudgeAgainstNew_X0_grudgesOfDoor : GoodIn wsX6_grudgeAgainstNew (wsV RX6 255 RX0 yX0_grudgesOfDoor wsX0_grudgesOfDoor) := goodIn_app (goodIn_of _ (by decide +kernel)) ggX6_grudgeAgainstNew_X0_grudgesOfDoor
theorem dX6_grudgeAgainstNew_0 : decode cX6_grudgeAgainstNew 0 = .ok (.aload_n 0, 1) := by decide +kernel
theorem dX6_grudgeAgainstNew_1 : decode cX6_grudgeAgainstNew 1 = .ok (.getfield 55, 3) := by decide +kernel
theorem dX6_grudgeAgainstNew_4 : decode cX6_grudgeAgainstNew 4 = .ok (.getfield 252, 3) := by decide +kernel
theorem dX6_grudgeAgainstNew_7 : decode cX6_grudgeAgainstNew 7 = .ok (.ifCond .le 26, 3) := by decide +kernel
theorem dX6_grudgeAgainstNew_10 : decode cX6_grudgeAgainstNew 10 = .ok (.aload_n 0, 1) := by decide +kernel
theorem dX6_grudgeAgainstNew_11 : decode cX6_grudgeAgainstNew 11 = .ok (.getfield 19, 3) := by decide +kernel
theorem dX6_grudgeAgainstNew_14 : decode cX6_grudgeAgainstNew 14 = .ok (.aload_n 0, 1) := by decide +kernel
theorem dX6_grudgeAgainstNew_15 : decode cX6_grudgeAgainstNew 15 = .ok (.getfield 55, 3) := by decide +kernel
theorem dX6_grudgeAgainstNew_18 : decode cX6_grudgeAgainstNew 18 = .ok (.iload_n 1, 1) := by decide +kernel
theorem dX6_grudgeAgainstNew_19 : decode cX6_grudgeAgainstNew 19 = .ok (.invokevirtual 255, 3) := by decide +kernel
theorem dX6_grudgeAgainstNew_22 : decode cX6_grudgeAgainstNew 22 = .ok (.aload_n 0, 1) := by decide +kernel
theorem dX6_grudgeAgainstNew_23 : decode cX6_grudgeAgainstNew 23 = .ok (.getfield 55, 3) := by decide +kernel
theorem dX6_grudgeAgainstNew_26 : decode cX6_grudgeAgainstNew 26 = .ok (.getfield 252, 3) := by decide +kernel
theorem dX6_grudgeAgainstNew_29 : decode cX6_grudgeAgainstNew 29 = .ok (.idiv, 1) := by decide +kernel
theorem dX6_grudgeAgainstNew_30 : decode cX6_grudgeAgainstNew 30 = .ok (.goto 4, 3) := by decide +kernel
theorem dX6_grudgeAgainstNew_33 : decode cX6_grudgeAgainstNew 33 = .ok (.iconst 0, 1) := by decide +kernel
theorem dX6_grudgeAgainstNew_34 : decode cX6_grudgeAgainstNew 34 = .ok (.ireturn, 1) := by decide +kernel
set_option maxRecDepth 20000 in
theorem ggX6_goThereAndBack_X6_at : GoodIn wsX6_goThereAndBack wsX6_at := goodIn_r _ [6] (by decide +kernel) (by decide +kernel)
set_option maxRecDepth 20000 in
theorem gX6_goThereAndBack_X6_at : GoodIn wsX6_goThereAndBack (va_wsS RX6 106 yX6_at wsX6_at) := goodIn_app (goodIn_of _ (by decide +kernel)) ggX6_goThereAndBack_X6_at
set_option maxRecDepth 20000 in
theorem ggX6_goThereAndBack_X6_goTo : GoodIn wsX6_goThereAndBack wsX6_goTo := goodIn_r _ [10, 11, 1, 2, 12, 13, 14, 15, 16, 17, 18, 19, 20, 5, 21, 22, 23, 24, 25, 26, 27, 28, 29, 30, 31, 4, 6, 32, 33, 34, 35, 36, 37, 38, 39, 40, 41, 42, 43, 44, 3, 45, 46, 47, 48, 49, 50, 51, 52, 53, 54, 55, 56, 57, 58, 59, 60, 61, 62, 63, 64, 65, 66, 67, 68, 69, 70, 71, 72, 73, 74, 75, 76, 77, 78, 79, 80, 81, 82, 83, 84, 85, 86, 87, 88, 89, 90, 91, 92, 93, 94, 95, 96, 97, 113, 114, 115, 116, 117, 118, 98, 99, 100, 101, 102, 103, 104, 105, 106, 107, 108, 109, 110, 111, 112, 119, 120] (by decide +kernel) (by decide +kernel)
set_option maxRecDepth 20000 in
theorem gX6_goThereAndBack_X6_goTo : GoodIn wsX6_goThereAndBack (wsV RX6 258 RX6 yX6_goTo wsX6_goTo) := goodIn_app (goodIn_of _ (by decide +kernel)) ggX6_goThereAndBack_X6_goTo
theorem dX6_goThereAndBack_0 : decode cX6_goThereAndBack 0 = .ok (.aload_n 0, 1) := by decide +kernel
theorem dX6_goThereAndBack_1 : decode cX6_goThereAndBack 1 = .ok (.getfield 55, 3) := by decide +kernel
theorem dX6_goThereAndBack_4 : decode cX6_goThereAndBack 4 = .ok (.getfield 252, 3) := by decide +kernel
theorem dX6_goThereAndBack_7 : decode cX6_goThereAndBack 7 = .ok (.iconst 1, 1) := by decide +kernel
theorem dX6_goThereAndBack_8 : decode cX6_goThereAndBack 8 = .ok (.if_icmp .ge 4, 3) := by decide +kernel
theorem dX6_goThereAndBack_11 : decode cX6_goThereAndBack 11 = .ok (.return_, 1) := by decide +kernel
theorem dX6_goThereAndBack_12 : decode cX6_goThereAndBack 12 = .ok (.iload_n 1, 1) := by decide +kernel
theorem dX6_goThereAndBack_13 : decode cX6_goThereAndBack 13 = .ok (.aload_n 0, 1) := by decide +kernel
theorem dX6_goThereAndBack_14 : decode cX6_goThereAndBack 14 = .ok (.getfield 55, 3) := by decide +kernel
theorem dX6_goThereAndBack_17 : decode cX6_goThereAndBack 17 = .ok (.getfield 252, 3) := by decide +kernel
theorem dX6_goThereAndBack_20 : decode cX6_goThereAndBack 20 = .ok (.irem, 1) := by decide +kernel
theorem dX6_goThereAndBack_21 : decode cX6_goThereAndBack 21 = .ok (.istore_n 2, 1) := by decide +kernel
theorem dX6_goThereAndBack_22 : decode cX6_goThereAndBack 22 = .ok (.iload_n 1, 1) := by decide +kernel
theorem dX6_goThereAndBack_23 : decode cX6_goThereAndBack 23 = .ok (.bipush 8, 2) := by decide +kernel
theorem dX6_goThereAndBack_25 : decode cX6_goThereAndBack 25 = .ok (.idiv, 1) := by decide +kernel
theorem dX6_goThereAndBack_26 : decode cX6_goThereAndBack 26 = .ok (.iconst 2, 1) := by decide +kernel
theorem dX6_goThereAndBack_27 : decode cX6_goThereAndBack 27 = .ok (.irem, 1) := by decide +kernel
theorem dX6_goThereAndBack_28 : decode cX6_goThereAndBack 28 = .ok (.iconst 1, 1) := by decide +kernel
theorem dX6_goThereAndBack_29 : decode cX6_goThereAndBack 29 = .ok (.if_icmp .ne 7, 3) := by decide +kernel
theorem dX6_goThereAndBack_32 : decode cX6_goThereAndBack 32 = .ok (.iconst 1, 1) := by decide +kernel
theorem dX6_goThereAndBack_33 : decode cX6_goThereAndBack 33 = .ok (.goto 4, 3) := by decide +kernel
theorem dX6_goThereAndBack_36 : decode cX6_goThereAndBack 36 = .ok (.iconst 0, 1) := by decide +kernel
theorem dX6_goThereAndBack_37 : decode cX6_goThereAndBack 37 = .ok (.istore_n 3, 1) := by decide +kernel
theorem dX6_goThereAndBack_38 : decode cX6_goThereAndBack 38 = .ok (.aload_n 0, 1) := by decide +kernel
theorem dX6_goThereAndBack_39 : decode cX6_goThereAndBack 39 = .ok (.getfield 23, 3) := by decide +kernel
theorem dX6_goThereAndBack_42 : decode cX6_goThereAndBack 42 = .ok (.getfield 125, 3) := by decide +kernel
theorem dX6_goThereAndBack_45 : decode cX6_goThereAndBack 45 = .ok (.iload_n 2, 1) := by decide +kernel
theorem dX6_goThereAndBack_46 : decode cX6_goThereAndBack 46 = .ok (.invokestatic 106, 3) := by decide +kernel
theorem dX6_goThereAndBack_49 : decode cX6_goThereAndBack 49 = .ok (.istore 4, 2) := by decide +kernel
theorem dX6_goThereAndBack_51 : decode cX6_goThereAndBack 51 = .ok (.aload_n 0, 1) := by decide +kernel
theorem dX6_goThereAndBack_52 : decode cX6_goThereAndBack 52 = .ok (.iload_n 2, 1) := by decide +kernel
theorem dX6_goThereAndBack_53 : decode cX6_goThereAndBack 53 = .ok (.aload_n 0, 1) := by decide +kernel
theorem dX6_goThereAndBack_54 : decode cX6_goThereAndBack 54 = .ok (.getfield 55, 3) := by decide +kernel
theorem dX6_goThereAndBack_57 : decode cX6_goThereAndBack 57 = .ok (.getfield 131, 3) := by decide +kernel
theorem dX6_goThereAndBack_60 : decode cX6_goThereAndBack 60 = .ok (.iload_n 2, 1) := by decide +kernel
theorem dX6_goThereAndBack_61 : decode cX6_goThereAndBack 61 = .ok (.invokestatic 106, 3) := by decide +kernel
theorem dX6_goThereAndBack_64 : decode cX6_goThereAndBack 64 = .ok (.iload_n 3, 1) := by decide +kernel
theorem dX6_goThereAndBack_65 : decode cX6_goThereAndBack 65 = .ok (.invokevirtual 258, 3) := by decide +kernel
theorem dX6_goThereAndBack_68 : decode cX6_goThereAndBack 68 = .ok (.aload_n 0, 1) := by decide +kernel
theorem dX6_goThereAndBack_69 : decode cX6_goThereAndBack 69 = .ok (.iload_n 2, 1) := by decide +kernel
theorem dX6_goThereAndBack_70 : decode cX6_goThereAndBack 70 = .ok (.iload 4, 2) := by decide +kernel
theorem dX6_goThereAndBack_72 : decode cX6_goThereAndBack 72 = .ok (.iload_n 3, 1) := by decide +kernel
theorem dX6_goThereAndBack_73 : decode cX6_goThereAndBack 73 = .ok (.invokevirtual 258, 3) := by decide +kernel
theorem dX6_goThereAndBack_76 : decode cX6_goThereAndBack 76 = .ok (.return_, 1) := by decide +kernel
set_option maxRecDepth 20000 in
theorem ggX6_goTo_X5_measure : GoodIn wsX6_goTo wsX5_measure := goodIn_r _ [8, 9, 10, 11, 12, 13, 14, 15, 16, 17, 18, 19, 20, 21, 22, 23, 24, 25, 26, 27, 28, 29, 30, 31, 32, 33, 34, 35, 36, 37, 38, 7, 39, 100, 101, 102, 103, 104, 105, 106, 107, 108, 109, 110, 111, 112, 113, 114, 115, 116, 94, 95, 96, 97, 98, 99] (by decide +kernel) (by decide +kernel)
set_option maxRecDepth 20000 in
theorem gX6_goTo_X5_measure : GoodIn wsX6_goTo (wsV RX6 176 RX5 yX5_measure wsX5_measure) := goodIn_app (goodIn_of _ (by decide +kernel)) ggX6_goTo_X5_measure
set_option maxRecDepth 20000 in
theorem ggX6_goTo_X6_at : GoodIn wsX6_goTo wsX6_at := goodIn_r _ [26] (by decide +kernel) (by decide +kernel)
set_option maxRecDepth 20000 in
theorem gX6_goTo_X6_at : GoodIn wsX6_goTo (va_wsS RX6 106 yX6_at wsX6_at) := goodIn_app (goodIn_of _ (by decide +kernel)) ggX6_goTo_X6_at
set_option maxRecDepth 20000 in
theorem ggX6_goTo_X5_lowestDoorFrom : GoodIn wsX6_goTo wsX5_lowestDoorFrom := goodIn_r _ [44, 9, 10, 45, 46, 47, 7, 48, 11, 25, 13, 26, 49, 50, 51, 52, 53, 54, 55, 100, 101, 102, 103, 104, 105, 106, 107, 108, 109, 110, 111, 112, 113, 114, 115, 116] (by decide +kernel) (by decide +kernel)
set_option maxRecDepth 20000 in
theorem gX6_goTo_X5_lowestDoorFrom : GoodIn wsX6_goTo (wsV RX6 184 RX5 yX5_lowestDoorFrom wsX5_lowestDoorFrom) := goodIn_app (goodIn_of _ (by decide +kernel)) ggX6_goTo_X5_lowestDoorFrom
set_option maxRecDepth 20000 in
theorem ggX6_goTo_X0_passThrough : GoodIn wsX6_goTo wsX0_passThrough := goodIn_r _ [59, 60, 61, 62, 16, 17, 18, 19, 20, 21, 22, 23, 24, 25, 13, 26, 27, 28, 29, 30, 31, 63, 50, 51, 52, 53, 54, 55, 32, 33, 64, 65, 66, 67, 68, 69, 70, 71, 72, 73, 74, 75, 76, 77, 78, 79, 80, 81, 82, 83, 84, 94, 95, 96, 97, 98, 99, 100, 101, 102, 103, 104, 105, 106, 107, 108, 109, 110, 111, 112, 113, 114] (by decide +kernel) (by decide +kernel)
set_option maxRecDepth 20000 in
theorem gX6_goTo_X0_passThrough : GoodIn wsX6_goTo (wsV RX6 145 RX0 yX0_passThrough wsX0_passThrough) := goodIn_app (goodIn_of _ (by decide +kernel)) ggX6_goTo_X0_passThrough
theorem dX6_goTo_0 : decode cX6_goTo 0 = .ok (.iconst 0, 1) := by decide +kernel
theorem dX6_goTo_1 : decode cX6_goTo 1 = .ok (.istore 4, 2) := by decide +kernel
theorem dX6_goTo_3 : decode cX6_goTo 3 = .ok (.iload 4, 2) := by decide +kernel
theorem dX6_goTo_5 : decode cX6_goTo 5 = .ok (.bipush 6, 2) := by decide +kernel
theorem dX6_goTo_7 : decode cX6_goTo 7 = .ok (.if_icmp .ge 73, 3) := by decide +kernel
theorem dX6_goTo_10 : decode cX6_goTo 10 = .ok (.aload_n 0, 1) := by decide +kernel
theorem dX6_goTo_11 : decode cX6_goTo 11 = .ok (.getfield 41, 3) := by decide +kernel
theorem dX6_goTo_14 : decode cX6_goTo 14 = .ok (.aload_n 0, 1) := by decide +kernel
theorem dX6_goTo_15 : decode cX6_goTo 15 = .ok (.getfield 55, 3) := by decide +kernel
theorem dX6_goTo_18 : decode cX6_goTo 18 = .ok (.aload_n 0, 1) := by decide +kernel
theorem dX6_goTo_19 : decode cX6_goTo 19 = .ok (.getfield 23, 3) := by decide +kernel
theorem dX6_goTo_22 : decode cX6_goTo 22 = .ok (.iload_n 1, 1) := by decide +kernel
theorem dX6_goTo_23 : decode cX6_goTo 23 = .ok (.iload_n 2, 1) := by decide +kernel
theorem dX6_goTo_24 : decode cX6_goTo 24 = .ok (.iconst 0, 1) := by decide +kernel
theorem dX6_goTo_25 : decode cX6_goTo 25 = .ok (.invokevirtual 176, 3) := by decide +kernel
theorem dX6_goTo_28 : decode cX6_goTo 28 = .ok (.aload_n 0, 1) := by decide +kernel
theorem dX6_goTo_29 : decode cX6_goTo 29 = .ok (.getfield 41, 3) := by decide +kernel
theorem dX6_goTo_32 : decode cX6_goTo 32 = .ok (.aload_n 0, 1) := by decide +kernel
theorem dX6_goTo_33 : decode cX6_goTo 33 = .ok (.getfield 55, 3) := by decide +kernel
theorem dX6_goTo_36 : decode cX6_goTo 36 = .ok (.aload_n 0, 1) := by decide +kernel
theorem dX6_goTo_37 : decode cX6_goTo 37 = .ok (.getfield 23, 3) := by decide +kernel
theorem dX6_goTo_40 : decode cX6_goTo 40 = .ok (.getfield 125, 3) := by decide +kernel
theorem dX6_goTo_43 : decode cX6_goTo 43 = .ok (.iload_n 1, 1) := by decide +kernel
theorem dX6_goTo_44 : decode cX6_goTo 44 = .ok (.invokestatic 106, 3) := by decide +kernel
theorem dX6_goTo_47 : decode cX6_goTo 47 = .ok (.invokevirtual 184, 3) := by decide +kernel
theorem dX6_goTo_50 : decode cX6_goTo 50 = .ok (.istore 5, 2) := by decide +kernel
theorem dX6_goTo_52 : decode cX6_goTo 52 = .ok (.iload 5, 2) := by decide +kernel
theorem dX6_goTo_54 : decode cX6_goTo 54 = .ok (.ifCond .ge 4, 3) := by decide +kernel
theorem dX6_goTo_57 : decode cX6_goTo 57 = .ok (.return_, 1) := by decide +kernel
theorem dX6_goTo_58 : decode cX6_goTo 58 = .ok (.aload_n 0, 1) := by decide +kernel
theorem dX6_goTo_59 : decode cX6_goTo 59 = .ok (.getfield 23, 3) := by decide +kernel
theorem dX6_goTo_62 : decode cX6_goTo 62 = .ok (.aload_n 0, 1) := by decide +kernel
theorem dX6_goTo_63 : decode cX6_goTo 63 = .ok (.getfield 55, 3) := by decide +kernel
theorem dX6_goTo_66 : decode cX6_goTo 66 = .ok (.iload_n 1, 1) := by decide +kernel
theorem dX6_goTo_67 : decode cX6_goTo 67 = .ok (.iload 5, 2) := by decide +kernel
theorem dX6_goTo_69 : decode cX6_goTo 69 = .ok (.iload_n 3, 1) := by decide +kernel
theorem dX6_goTo_70 : decode cX6_goTo 70 = .ok (.invokevirtual 145, 3) := by decide +kernel
theorem dX6_goTo_73 : decode cX6_goTo 73 = .ok (.pop, 1) := by decide +kernel
theorem dX6_goTo_74 : decode cX6_goTo 74 = .ok (.iinc 4 1, 3) := by decide +kernel
theorem dX6_goTo_77 : decode cX6_goTo 77 = .ok (.goto (-74), 3) := by decide +kernel
theorem dX6_goTo_80 : decode cX6_goTo 80 = .ok (.return_, 1) := by decide +kernel
theorem dX6_within_0 : decode cX6_within 0 = .ok (.iload_n 0, 1) := by decide +kernel
theorem dX6_within_1 : decode cX6_within 1 = .ok (.iload_n 1, 1) := by decide +kernel
theorem dX6_within_2 : decode cX6_within 2 = .ok (.if_icmp .lt 12, 3) := by decide +kernel
theorem dX6_within_5 : decode cX6_within 5 = .ok (.iload_n 0, 1) := by decide +kernel
theorem dX6_within_6 : decode cX6_within 6 = .ok (.iload_n 2, 1) := by decide +kernel
theorem dX6_within_7 : decode cX6_within 7 = .ok (.if_icmp .gt 7, 3) := by decide +kernel
theorem dX6_within_10 : decode cX6_within 10 = .ok (.iconst 1, 1) := by decide +kernel
theorem dX6_within_11 : decode cX6_within 11 = .ok (.goto 4, 3) := by decide +kernel
theorem dX6_within_14 : decode cX6_within 14 = .ok (.iconst 0, 1) := by decide +kernel
theorem dX6_within_15 : decode cX6_within 15 = .ok (.ireturn, 1) := by decide +kernel
theorem dX6_holds_0 : decode cX6_holds 0 = .ok (.iload_n 0, 1) := by decide +kernel
theorem dX6_holds_1 : decode cX6_holds 1 = .ok (.iload_n 1, 1) := by decide +kernel
theorem dX6_holds_2 : decode cX6_holds 2 = .ok (.ishr, 1) := by decide +kernel
theorem dX6_holds_3 : decode cX6_holds 3 = .ok (.iconst 1, 1) := by decide +kernel
theorem dX6_holds_4 : decode cX6_holds 4 = .ok (.iand, 1) := by decide +kernel
theorem dX6_holds_5 : decode cX6_holds 5 = .ok (.iconst 1, 1) := by decide +kernel
theorem dX6_holds_6 : decode cX6_holds 6 = .ok (.if_icmp .ne 7, 3) := by decide +kernel
theorem dX6_holds_9 : decode cX6_holds 9 = .ok (.iconst 1, 1) := by decide +kernel
theorem dX6_holds_10 : decode cX6_holds 10 = .ok (.goto 4, 3) := by decide +kernel
theorem dX6_holds_13 : decode cX6_holds 13 = .ok (.iconst 0, 1) := by decide +kernel
theorem dX6_holds_14 : decode cX6_holds 14 = .ok (.ireturn, 1) := by decide +kernel
theorem dX6_at_0 : decode cX6_at 0 = .ok (.iload_n 1, 1) := by decide +kernel
theorem dX6_at_1 : decode cX6_at 1 = .ok (.ifCond .lt 15, 3) := by decide +kernel
theorem dX6_at_4 : decode cX6_at 4 = .ok (.iload_n 1, 1) := by decide +kernel
theorem dX6_at_5 : decode cX6_at 5 = .ok (.aload_n 0, 1) := by decide +kernel
theorem dX6_at_6 : decode cX6_at 6 = .ok (.arraylength, 1) := by decide +kernel
theorem dX6_at_7 : decode cX6_at 7 = .ok (.if_icmp .ge 9, 3) := by decide +kernel
theorem dX6_at_10 : decode cX6_at 10 = .ok (.aload_n 0, 1) := by decide +kernel
theorem dX6_at_11 : decode cX6_at 11 = .ok (.iload_n 1, 1) := by decide +kernel
theorem dX6_at_12 : decode cX6_at 12 = .ok (.iaload, 1) := by decide +kernel
theorem dX6_at_13 : decode cX6_at 13 = .ok (.goto 4, 3) := by decide +kernel
theorem dX6_at_16 : decode cX6_at 16 = .ok (.iconst 0, 1) := by decide +kernel
theorem dX6_at_17 : decode cX6_at 17 = .ok (.ireturn, 1) := by decide +kernel
theorem dX6_put_0 : decode cX6_put 0 = .ok (.iload_n 1, 1) := by decide +kernel
theorem dX6_put_1 : decode cX6_put 1 = .ok (.ifCond .lt 13, 3) := by decide +kernel
theorem dX6_put_4 : decode cX6_put 4 = .ok (.iload_n 1, 1) := by decide +kernel
theorem dX6_put_5 : decode cX6_put 5 = .ok (.aload_n 0, 1) := by decide +kernel
theorem dX6_put_6 : decode cX6_put 6 = .ok (.arraylength, 1) := by decide +kernel
theorem dX6_put_7 : decode cX6_put 7 = .ok (.if_icmp .ge 7, 3) := by decide +kernel
theorem dX6_put_10 : decode cX6_put 10 = .ok (.aload_n 0, 1) := by decide +kernel
theorem dX6_put_11 : decode cX6_put 11 = .ok (.iload_n 1, 1) := by decide +kernel
theorem dX6_put_12 : decode cX6_put 12 = .ok (.iload_n 2, 1) := by decide +kernel
theorem dX6_put_13 : decode cX6_put 13 = .ok (.iastore, 1) := by decide +kernel
theorem dX6_put_14 : decode cX6_put 14 = .ok (.return_, 1) := by decide +kernel
theorem dX6_fill_0 : decode cX6_fill 0 = .ok (.iconst 0, 1) := by decide +kernel
theorem dX6_fill_1 : decode cX6_fill 1 = .ok (.istore_n 2, 1) := by decide +kernel
theorem dX6_fill_2 : decode cX6_fill 2 = .ok (.iload_n 2, 1) := by decide +kernel
theorem dX6_fill_3 : decode cX6_fill 3 = .ok (.aload_n 0, 1) := by decide +kernel
theorem dX6_fill_4 : decode cX6_fill 4 = .ok (.arraylength, 1) := by decide +kernel
theorem dX6_fill_5 : decode cX6_fill 5 = .ok (.if_icmp .ge 13, 3) := by decide +kernel
theorem dX6_fill_8 : decode cX6_fill 8 = .ok (.aload_n 0, 1) := by decide +kernel
theorem dX6_fill_9 : decode cX6_fill 9 = .ok (.iload_n 2, 1) := by decide +kernel
theorem dX6_fill_10 : decode cX6_fill 10 = .ok (.iload_n 1, 1) := by decide +kernel
theorem dX6_fill_11 : decode cX6_fill 11 = .ok (.iastore, 1) := by decide +kernel
theorem dX6_fill_12 : decode cX6_fill 12 = .ok (.iinc 2 1, 3) := by decide +kernel
theorem dX6_fill_15 : decode cX6_fill 15 = .ok (.goto (-13), 3) := by decide +kernel
theorem dX6_fill_18 : decode cX6_fill 18 = .ok (.return_, 1) := by decide +kernel
theorem dX6_copy_0 : decode cX6_copy 0 = .ok (.iconst 0, 1) := by decide +kernel
theorem dX6_copy_1 : decode cX6_copy 1 = .ok (.istore_n 2, 1) := by decide +kernel
theorem dX6_copy_2 : decode cX6_copy 2 = .ok (.iload_n 2, 1) := by decide +kernel
theorem dX6_copy_3 : decode cX6_copy 3 = .ok (.aload_n 0, 1) := by decide +kernel
theorem dX6_copy_4 : decode cX6_copy 4 = .ok (.arraylength, 1) := by decide +kernel
theorem dX6_copy_5 : decode cX6_copy 5 = .ok (.if_icmp .ge 21, 3) := by decide +kernel
theorem dX6_copy_8 : decode cX6_copy 8 = .ok (.iload_n 2, 1) := by decide +kernel
theorem dX6_copy_9 : decode cX6_copy 9 = .ok (.aload_n 1, 1) := by decide +kernel
theorem dX6_copy_10 : decode cX6_copy 10 = .ok (.arraylength, 1) := by decide +kernel
theorem dX6_copy_11 : decode cX6_copy 11 = .ok (.if_icmp .ge 15, 3) := by decide +kernel
theorem dX6_copy_14 : decode cX6_copy 14 = .ok (.aload_n 1, 1) := by decide +kernel
theorem dX6_copy_15 : decode cX6_copy 15 = .ok (.iload_n 2, 1) := by decide +kernel
theorem dX6_copy_16 : decode cX6_copy 16 = .ok (.aload_n 0, 1) := by decide +kernel
theorem dX6_copy_17 : decode cX6_copy 17 = .ok (.iload_n 2, 1) := by decide +kernel
theorem dX6_copy_18 : decode cX6_copy 18 = .ok (.iaload, 1) := by decide +kernel
theorem dX6_copy_19 : decode cX6_copy 19 = .ok (.iastore, 1) := by decide +kernel
theorem dX6_copy_20 : decode cX6_copy 20 = .ok (.iinc 2 1, 3) := by decide +kernel
theorem dX6_copy_23 : decode cX6_copy 23 = .ok (.goto (-21), 3) := by decide +kernel
theorem dX6_copy_26 : decode cX6_copy 26 = .ok (.return_, 1) := by decide +kernel
theorem dX6_worn_0 : decode cX6_worn 0 = .ok (.iconst 0, 1) := by decide +kernel
theorem dX6_worn_1 : decode cX6_worn 1 = .ok (.iload_n 0, 1) := by decide +kernel
theorem dX6_worn_2 : decode cX6_worn 2 = .ok (.iload_n 1, 1) := by decide +kernel
theorem dX6_worn_3 : decode cX6_worn 3 = .ok (.isub, 1) := by decide +kernel
theorem dX6_worn_4 : decode cX6_worn 4 = .ok (.invokestatic 262, 3) := by decide +kernel
theorem dX6_worn_7 : decode cX6_worn 7 = .ok (.ireturn, 1) := by decide +kernel
theorem dX6_grown_0 : decode cX6_grown 0 = .ok (.bipush 99, 2) := by decide +kernel
theorem dX6_grown_2 : decode cX6_grown 2 = .ok (.iload_n 0, 1) := by decide +kernel
theorem dX6_grown_3 : decode cX6_grown 3 = .ok (.iload_n 1, 1) := by decide +kernel
theorem dX6_grown_4 : decode cX6_grown 4 = .ok (.iadd, 1) := by decide +kernel
theorem dX6_grown_5 : decode cX6_grown 5 = .ok (.invokestatic 226, 3) := by decide +kernel
theorem dX6_grown_8 : decode cX6_grown 8 = .ok (.ireturn, 1) := by decide +kernel
end
section
set_option maxRecDepth 20000 in
theorem ggX7_init_X7_begins : GoodIn wsX7_init wsX7_begins := goodIn_r _ [24, 7, 8, 11, 13, 10, 31, 32, 33, 34, 35, 36, 37, 38, 39, 40, 41, 42, 43, 44, 45, 46, 47, 48, 49] (by decide +kernel) (by decide +kernel)
set_option maxRecDepth 20000 in
theorem gX7_init_X7_begins : GoodIn wsX7_init (wsV RX7 53 RX7 yX7_begins wsX7_begins) := goodIn_app (goodIn_of _ (by decide +kernel)) ggX7_init_X7_begins
set_option maxRecDepth 20000 in
theorem ggX7_init_X7_takes : GoodIn wsX7_init wsX7_takes := goodIn_r _ [28, 8, 11, 13, 9, 12, 10, 7, 14, 29, 30, 31, 32, 33, 34, 35, 36, 37, 38, 39, 40, 41, 42, 43, 44, 45, 46, 47, 48, 49] (by decide +kernel) (by decide +kernel)
set_option maxRecDepth 20000 in
theorem gX7_init_X7_takes : GoodIn wsX7_init (wsV RX7 56 RX7 yX7_takes wsX7_takes) := goodIn_app (goodIn_of _ (by decide +kernel)) ggX7_init_X7_takes
theorem dX7_init_0 : decode cX7_init 0 = .ok (.aload_n 0, 1) := by decide +kernel
theorem dX7_init_1 : decode cX7_init 1 = .ok (.invokespecial 1, 3) := by decide +kernel
theorem dX7_init_4 : decode cX7_init 4 = .ok (.aload_n 0, 1) := by decide +kernel
theorem dX7_init_5 : decode cX7_init 5 = .ok (.sipush 300, 3) := by decide +kernel
theorem dX7_init_8 : decode cX7_init 8 = .ok (.newarray .byte, 2) := by decide +kernel
theorem dX7_init_10 : decode cX7_init 10 = .ok (.putfield 7, 3) := by decide +kernel
theorem dX7_init_13 : decode cX7_init 13 = .ok (.aload_n 0, 1) := by decide +kernel
theorem dX7_init_14 : decode cX7_init 14 = .ok (.bipush 10, 2) := by decide +kernel
theorem dX7_init_16 : decode cX7_init 16 = .ok (.newarray .int, 2) := by decide +kernel
theorem dX7_init_18 : decode cX7_init 18 = .ok (.putfield 13, 3) := by decide +kernel
theorem dX7_init_21 : decode cX7_init 21 = .ok (.aload_n 0, 1) := by decide +kernel
theorem dX7_init_22 : decode cX7_init 22 = .ok (.iconst 2, 1) := by decide +kernel
theorem dX7_init_23 : decode cX7_init 23 = .ok (.newarray .int, 2) := by decide +kernel
theorem dX7_init_25 : decode cX7_init 25 = .ok (.putfield 17, 3) := by decide +kernel
theorem dX7_init_28 : decode cX7_init 28 = .ok (.aload_n 0, 1) := by decide +kernel
theorem dX7_init_29 : decode cX7_init 29 = .ok (.bipush 48, 2) := by decide +kernel
theorem dX7_init_31 : decode cX7_init 31 = .ok (.newarray .int, 2) := by decide +kernel
theorem dX7_init_33 : decode cX7_init 33 = .ok (.putfield 20, 3) := by decide +kernel
theorem dX7_init_36 : decode cX7_init 36 = .ok (.aload_n 0, 1) := by decide +kernel
theorem dX7_init_37 : decode cX7_init 37 = .ok (.bipush 16, 2) := by decide +kernel
theorem dX7_init_39 : decode cX7_init 39 = .ok (.newarray .int, 2) := by decide +kernel
theorem dX7_init_41 : decode cX7_init 41 = .ok (.putfield 23, 3) := by decide +kernel
theorem dX7_init_44 : decode cX7_init 44 = .ok (.aload_n 0, 1) := by decide +kernel
theorem dX7_init_45 : decode cX7_init 45 = .ok (.iconst 2, 1) := by decide +kernel
theorem dX7_init_46 : decode cX7_init 46 = .ok (.newarray .int, 2) := by decide +kernel
theorem dX7_init_48 : decode cX7_init 48 = .ok (.putfield 26, 3) := by decide +kernel
theorem dX7_init_51 : decode cX7_init 51 = .ok (.aload_n 0, 1) := by decide +kernel
theorem dX7_init_52 : decode cX7_init 52 = .ok (.bipush 24, 2) := by decide +kernel
theorem dX7_init_54 : decode cX7_init 54 = .ok (.newarray .int, 2) := by decide +kernel
theorem dX7_init_56 : decode cX7_init 56 = .ok (.putfield 29, 3) := by decide +kernel
theorem dX7_init_59 : decode cX7_init 59 = .ok (.aload_n 0, 1) := by decide +kernel
theorem dX7_init_60 : decode cX7_init 60 = .ok (.bipush 64, 2) := by decide +kernel
theorem dX7_init_62 : decode cX7_init 62 = .ok (.newarray .int, 2) := by decide +kernel
theorem dX7_init_64 : decode cX7_init 64 = .ok (.putfield 32, 3) := by decide +kernel
theorem dX7_init_67 : decode cX7_init 67 = .ok (.aload_n 0, 1) := by decide +kernel
theorem dX7_init_68 : decode cX7_init 68 = .ok (.sipush 552, 3) := by decide +kernel
theorem dX7_init_71 : decode cX7_init 71 = .ok (.newarray .int, 2) := by decide +kernel
theorem dX7_init_73 : decode cX7_init 73 = .ok (.putfield 35, 3) := by decide +kernel
theorem dX7_init_76 : decode cX7_init 76 = .ok (.aload_n 0, 1) := by decide +kernel
theorem dX7_init_77 : decode cX7_init 77 = .ok (.bipush 32, 2) := by decide +kernel
theorem dX7_init_79 : decode cX7_init 79 = .ok (.newarray .int, 2) := by decide +kernel
theorem dX7_init_81 : decode cX7_init 81 = .ok (.putfield 38, 3) := by decide +kernel
theorem dX7_init_84 : decode cX7_init 84 = .ok (.aload_n 0, 1) := by decide +kernel
theorem dX7_init_85 : decode cX7_init 85 = .ok (.bipush 6, 2) := by decide +kernel
theorem dX7_init_87 : decode cX7_init 87 = .ok (.newarray .int, 2) := by decide +kernel
theorem dX7_init_89 : decode cX7_init 89 = .ok (.putfield 41, 3) := by decide +kernel
theorem dX7_init_92 : decode cX7_init 92 = .ok (.aload_n 0, 1) := by decide +kernel
theorem dX7_init_93 : decode cX7_init 93 = .ok (.iconst 4, 1) := by decide +kernel
theorem dX7_init_94 : decode cX7_init 94 = .ok (.newarray .int, 2) := by decide +kernel
theorem dX7_init_96 : decode cX7_init 96 = .ok (.putfield 44, 3) := by decide +kernel
theorem dX7_init_99 : decode cX7_init 99 = .ok (.aload_n 0, 1) := by decide +kernel
theorem dX7_init_100 : decode cX7_init 100 = .ok (.iconst 4, 1) := by decide +kernel
theorem dX7_init_101 : decode cX7_init 101 = .ok (.newarray .int, 2) := by decide +kernel
theorem dX7_init_103 : decode cX7_init 103 = .ok (.putfield 47, 3) := by decide +kernel
theorem dX7_init_106 : decode cX7_init 106 = .ok (.aload_n 0, 1) := by decide +kernel
theorem dX7_init_107 : decode cX7_init 107 = .ok (.iconst 3, 1) := by decide +kernel
theorem dX7_init_108 : decode cX7_init 108 = .ok (.newarray .int, 2) := by decide +kernel
theorem dX7_init_110 : decode cX7_init 110 = .ok (.putfield 50, 3) := by decide +kernel
theorem dX7_init_113 : decode cX7_init 113 = .ok (.aload_n 0, 1) := by decide +kernel
theorem dX7_init_114 : decode cX7_init 114 = .ok (.invokevirtual 53, 3) := by decide +kernel
theorem dX7_init_117 : decode cX7_init 117 = .ok (.aload_n 0, 1) := by decide +kernel
theorem dX7_init_118 : decode cX7_init 118 = .ok (.getfield 17, 3) := by decide +kernel
theorem dX7_init_121 : decode cX7_init 121 = .ok (.iconst 1, 1) := by decide +kernel
theorem dX7_init_122 : decode cX7_init 122 = .ok (.iconst 2, 1) := by decide +kernel
theorem dX7_init_123 : decode cX7_init 123 = .ok (.iastore, 1) := by decide +kernel
theorem dX7_init_124 : decode cX7_init 124 = .ok (.aload_n 0, 1) := by decide +kernel
theorem dX7_init_125 : decode cX7_init 125 = .ok (.getfield 20, 3) := by decide +kernel
theorem dX7_init_128 : decode cX7_init 128 = .ok (.bipush 25, 2) := by decide +kernel
theorem dX7_init_130 : decode cX7_init 130 = .ok (.iconst 1, 1) := by decide +kernel
theorem dX7_init_131 : decode cX7_init 131 = .ok (.iastore, 1) := by decide +kernel
theorem dX7_init_132 : decode cX7_init 132 = .ok (.aload_n 0, 1) := by decide +kernel
theorem dX7_init_133 : decode cX7_init 133 = .ok (.getfield 20, 3) := by decide +kernel
theorem dX7_init_136 : decode cX7_init 136 = .ok (.bipush 26, 2) := by decide +kernel
theorem dX7_init_138 : decode cX7_init 138 = .ok (.iconst 1, 1) := by decide +kernel
theorem dX7_init_139 : decode cX7_init 139 = .ok (.iastore, 1) := by decide +kernel
theorem dX7_init_140 : decode cX7_init 140 = .ok (.aload_n 0, 1) := by decide +kernel
theorem dX7_init_141 : decode cX7_init 141 = .ok (.getfield 20, 3) := by decide +kernel
theorem dX7_init_144 : decode cX7_init 144 = .ok (.bipush 27, 2) := by decide +kernel
theorem dX7_init_146 : decode cX7_init 146 = .ok (.iconst 1, 1) := by decide +kernel
theorem dX7_init_147 : decode cX7_init 147 = .ok (.iastore, 1) := by decide +kernel
theorem dX7_init_148 : decode cX7_init 148 = .ok (.aload_n 0, 1) := by decide +kernel
theorem dX7_init_149 : decode cX7_init 149 = .ok (.getfield 20, 3) := by decide +kernel
theorem dX7_init_152 : decode cX7_init 152 = .ok (.bipush 28, 2) := by decide +kernel
theorem dX7_init_154 : decode cX7_init 154 = .ok (.iconst 2, 1) := by decide +kernel
theorem dX7_init_155 : decode cX7_init 155 = .ok (.iastore, 1) := by decide +kernel
theorem dX7_init_156 : decode cX7_init 156 = .ok (.aload_n 0, 1) := by decide +kernel
theorem dX7_init_157 : decode cX7_init 157 = .ok (.getfield 20, 3) := by decide +kernel
theorem dX7_init_160 : decode cX7_init 160 = .ok (.bipush 29, 2) := by decide +kernel
theorem dX7_init_162 : decode cX7_init 162 = .ok (.iconst 0, 1) := by decide +kernel
theorem dX7_init_163 : decode cX7_init 163 = .ok (.iastore, 1) := by decide +kernel
theorem dX7_init_164 : decode cX7_init 164 = .ok (.aload_n 0, 1) := by decide +kernel
theorem dX7_init_165 : decode cX7_init 165 = .ok (.getfield 26, 3) := by decide +kernel
theorem dX7_init_168 : decode cX7_init 168 = .ok (.iconst 1, 1) := by decide +kernel
theorem dX7_init_169 : decode cX7_init 169 = .ok (.iconst 2, 1) := by decide +kernel
theorem dX7_init_170 : decode cX7_init 170 = .ok (.iastore, 1) := by decide +kernel
theorem dX7_init_171 : decode cX7_init 171 = .ok (.aload_n 0, 1) := by decide +kernel
theorem dX7_init_172 : decode cX7_init 172 = .ok (.getfield 29, 3) := by decide +kernel
theorem dX7_init_175 : decode cX7_init 175 = .ok (.bipush 13, 2) := by decide +kernel
theorem dX7_init_177 : decode cX7_init 177 = .ok (.iconst 5, 1) := by decide +kernel
theorem dX7_init_178 : decode cX7_init 178 = .ok (.iastore, 1) := by decide +kernel
theorem dX7_init_179 : decode cX7_init 179 = .ok (.aload_n 0, 1) := by decide +kernel
theorem dX7_init_180 : decode cX7_init 180 = .ok (.getfield 29, 3) := by decide +kernel
theorem dX7_init_183 : decode cX7_init 183 = .ok (.bipush 14, 2) := by decide +kernel
theorem dX7_init_185 : decode cX7_init 185 = .ok (.iconst 2, 1) := by decide +kernel
theorem dX7_init_186 : decode cX7_init 186 = .ok (.iastore, 1) := by decide +kernel
theorem dX7_init_187 : decode cX7_init 187 = .ok (.aload_n 0, 1) := by decide +kernel
theorem dX7_init_188 : decode cX7_init 188 = .ok (.getfield 29, 3) := by decide +kernel
theorem dX7_init_191 : decode cX7_init 191 = .ok (.bipush 15, 2) := by decide +kernel
theorem dX7_init_193 : decode cX7_init 193 = .ok (.iconst 2, 1) := by decide +kernel
theorem dX7_init_194 : decode cX7_init 194 = .ok (.iastore, 1) := by decide +kernel
theorem dX7_init_195 : decode cX7_init 195 = .ok (.aload_n 0, 1) := by decide +kernel
theorem dX7_init_196 : decode cX7_init 196 = .ok (.getfield 29, 3) := by decide +kernel
theorem dX7_init_199 : decode cX7_init 199 = .ok (.bipush 16, 2) := by decide +kernel
theorem dX7_init_201 : decode cX7_init 201 = .ok (.iconst 3, 1) := by decide +kernel
theorem dX7_init_202 : decode cX7_init 202 = .ok (.iastore, 1) := by decide +kernel
theorem dX7_init_203 : decode cX7_init 203 = .ok (.aload_n 0, 1) := by decide +kernel
theorem dX7_init_204 : decode cX7_init 204 = .ok (.getfield 29, 3) := by decide +kernel
theorem dX7_init_207 : decode cX7_init 207 = .ok (.bipush 17, 2) := by decide +kernel
theorem dX7_init_209 : decode cX7_init 209 = .ok (.iconst 0, 1) := by decide +kernel
theorem dX7_init_210 : decode cX7_init 210 = .ok (.iastore, 1) := by decide +kernel
theorem dX7_init_211 : decode cX7_init 211 = .ok (.aload_n 0, 1) := by decide +kernel
theorem dX7_init_212 : decode cX7_init 212 = .ok (.invokevirtual 56, 3) := by decide +kernel
theorem dX7_init_215 : decode cX7_init 215 = .ok (.return_, 1) := by decide +kernel
theorem dX7_in_0 : decode cX7_in 0 = .ok (.lload_n 0, 1) := by decide +kernel
theorem dX7_in_1 : decode cX7_in 1 = .ok (.lload_n 2, 1) := by decide +kernel
theorem dX7_in_2 : decode cX7_in 2 = .ok (.lcmp, 1) := by decide +kernel
theorem dX7_in_3 : decode cX7_in 3 = .ok (.ifCond .lt 14, 3) := by decide +kernel
theorem dX7_in_6 : decode cX7_in 6 = .ok (.lload_n 0, 1) := by decide +kernel
theorem dX7_in_7 : decode cX7_in 7 = .ok (.lload 4, 2) := by decide +kernel
theorem dX7_in_9 : decode cX7_in 9 = .ok (.lcmp, 1) := by decide +kernel
theorem dX7_in_10 : decode cX7_in 10 = .ok (.ifCond .gt 7, 3) := by decide +kernel
theorem dX7_in_13 : decode cX7_in 13 = .ok (.iconst 1, 1) := by decide +kernel
theorem dX7_in_14 : decode cX7_in 14 = .ok (.goto 4, 3) := by decide +kernel
theorem dX7_in_17 : decode cX7_in 17 = .ok (.iconst 0, 1) := by decide +kernel
theorem dX7_in_18 : decode cX7_in 18 = .ok (.ireturn, 1) := by decide +kernel
set_option maxRecDepth 20000 in
theorem ggX7_write_X7_in : GoodIn wsX7_write wsX7_in := goodIn_r _ [7] (by decide +kernel) (by decide +kernel)
set_option maxRecDepth 20000 in
theorem gX7_write_X7_in : GoodIn wsX7_write (va_wsS RX7 61 yX7_in wsX7_in) := goodIn_app (goodIn_of _ (by decide +kernel)) ggX7_write_X7_in
theorem dX7_write_0 : decode cX7_write 0 = .ok (.iload_n 1, 1) := by decide +kernel
theorem dX7_write_1 : decode cX7_write 1 = .ok (.i2l, 1) := by decide +kernel
theorem dX7_write_2 : decode cX7_write 2 = .ok (.lconst 1, 1) := by decide +kernel
theorem dX7_write_3 : decode cX7_write 3 = .ok (.ldc2_w 59, 3) := by decide +kernel
theorem dX7_write_6 : decode cX7_write 6 = .ok (.invokestatic 61, 3) := by decide +kernel
theorem dX7_write_9 : decode cX7_write 9 = .ok (.ifCond .ne 5, 3) := by decide +kernel
theorem dX7_write_12 : decode cX7_write 12 = .ok (.iconst (-1), 1) := by decide +kernel
theorem dX7_write_13 : decode cX7_write 13 = .ok (.ireturn, 1) := by decide +kernel
theorem dX7_write_14 : decode cX7_write 14 = .ok (.aload_n 0, 1) := by decide +kernel
theorem dX7_write_15 : decode cX7_write 15 = .ok (.getfield 65, 3) := by decide +kernel
theorem dX7_write_18 : decode cX7_write 18 = .ok (.iload_n 1, 1) := by decide +kernel
theorem dX7_write_19 : decode cX7_write 19 = .ok (.iadd, 1) := by decide +kernel
theorem dX7_write_20 : decode cX7_write 20 = .ok (.sipush 300, 3) := by decide +kernel
theorem dX7_write_23 : decode cX7_write 23 = .ok (.if_icmp .le 6, 3) := by decide +kernel
theorem dX7_write_26 : decode cX7_write 26 = .ok (.bipush (-3), 2) := by decide +kernel
theorem dX7_write_28 : decode cX7_write 28 = .ok (.ireturn, 1) := by decide +kernel
theorem dX7_write_29 : decode cX7_write 29 = .ok (.iload_n 1, 1) := by decide +kernel
theorem dX7_write_30 : decode cX7_write 30 = .ok (.iconst 1, 1) := by decide +kernel
theorem dX7_write_31 : decode cX7_write 31 = .ok (.isub, 1) := by decide +kernel
theorem dX7_write_32 : decode cX7_write 32 = .ok (.istore 4, 2) := by decide +kernel
theorem dX7_write_34 : decode cX7_write 34 = .ok (.iload 4, 2) := by decide +kernel
theorem dX7_write_36 : decode cX7_write 36 = .ok (.ifCond .lt 37, 3) := by decide +kernel
theorem dX7_write_39 : decode cX7_write 39 = .ok (.aload_n 0, 1) := by decide +kernel
theorem dX7_write_40 : decode cX7_write 40 = .ok (.getfield 7, 3) := by decide +kernel
theorem dX7_write_43 : decode cX7_write 43 = .ok (.aload_n 0, 1) := by decide +kernel
theorem dX7_write_44 : decode cX7_write 44 = .ok (.getfield 65, 3) := by decide +kernel
theorem dX7_write_47 : decode cX7_write 47 = .ok (.lload_n 2, 1) := by decide +kernel
theorem dX7_write_48 : decode cX7_write 48 = .ok (.bipush 8, 2) := by decide +kernel
theorem dX7_write_50 : decode cX7_write 50 = .ok (.iload 4, 2) := by decide +kernel
theorem dX7_write_52 : decode cX7_write 52 = .ok (.imul, 1) := by decide +kernel
theorem dX7_write_53 : decode cX7_write 53 = .ok (.lshr, 1) := by decide +kernel
theorem dX7_write_54 : decode cX7_write 54 = .ok (.l2i, 1) := by decide +kernel
theorem dX7_write_55 : decode cX7_write 55 = .ok (.i2b, 1) := by decide +kernel
theorem dX7_write_56 : decode cX7_write 56 = .ok (.bastore, 1) := by decide +kernel
theorem dX7_write_57 : decode cX7_write 57 = .ok (.aload_n 0, 1) := by decide +kernel
theorem dX7_write_58 : decode cX7_write 58 = .ok (.dup, 1) := by decide +kernel
theorem dX7_write_59 : decode cX7_write 59 = .ok (.getfield 65, 3) := by decide +kernel
theorem dX7_write_62 : decode cX7_write 62 = .ok (.iconst 1, 1) := by decide +kernel
theorem dX7_write_63 : decode cX7_write 63 = .ok (.iadd, 1) := by decide +kernel
theorem dX7_write_64 : decode cX7_write 64 = .ok (.putfield 65, 3) := by decide +kernel
theorem dX7_write_67 : decode cX7_write 67 = .ok (.iinc 4 (-1), 3) := by decide +kernel
theorem dX7_write_70 : decode cX7_write 70 = .ok (.goto (-36), 3) := by decide +kernel
theorem dX7_write_73 : decode cX7_write 73 = .ok (.aload_n 0, 1) := by decide +kernel
theorem dX7_write_74 : decode cX7_write 74 = .ok (.getfield 65, 3) := by decide +kernel
theorem dX7_write_77 : decode cX7_write 77 = .ok (.ireturn, 1) := by decide +kernel
theorem dX7_wipe_0 : decode cX7_wipe 0 = .ok (.aload_n 0, 1) := by decide +kernel
theorem dX7_wipe_1 : decode cX7_wipe 1 = .ok (.getfield 65, 3) := by decide +kernel
theorem dX7_wipe_4 : decode cX7_wipe 4 = .ok (.istore_n 1, 1) := by decide +kernel
theorem dX7_wipe_5 : decode cX7_wipe 5 = .ok (.aload_n 0, 1) := by decide +kernel
theorem dX7_wipe_6 : decode cX7_wipe 6 = .ok (.iconst 0, 1) := by decide +kernel
theorem dX7_wipe_7 : decode cX7_wipe 7 = .ok (.putfield 65, 3) := by decide +kernel
theorem dX7_wipe_10 : decode cX7_wipe 10 = .ok (.iload_n 1, 1) := by decide +kernel
theorem dX7_wipe_11 : decode cX7_wipe 11 = .ok (.ireturn, 1) := by decide +kernel
set_option maxRecDepth 20000 in
theorem ggX7_number_X7_in : GoodIn wsX7_number wsX7_in := goodIn_r _ [10] (by decide +kernel) (by decide +kernel)
set_option maxRecDepth 20000 in
theorem gX7_number_X7_in : GoodIn wsX7_number (va_wsS RX7 61 yX7_in wsX7_in) := goodIn_app (goodIn_of _ (by decide +kernel)) ggX7_number_X7_in
theorem dX7_number_0 : decode cX7_number 0 = .ok (.iconst 0, 1) := by decide +kernel
theorem dX7_number_1 : decode cX7_number 1 = .ok (.istore_n 1, 1) := by decide +kernel
theorem dX7_number_2 : decode cX7_number 2 = .ok (.iconst 0, 1) := by decide +kernel
theorem dX7_number_3 : decode cX7_number 3 = .ok (.istore_n 2, 1) := by decide +kernel
theorem dX7_number_4 : decode cX7_number 4 = .ok (.aload_n 0, 1) := by decide +kernel
theorem dX7_number_5 : decode cX7_number 5 = .ok (.getfield 69, 3) := by decide +kernel
theorem dX7_number_8 : decode cX7_number 8 = .ok (.aload_n 0, 1) := by decide +kernel
theorem dX7_number_9 : decode cX7_number 9 = .ok (.getfield 65, 3) := by decide +kernel
theorem dX7_number_12 : decode cX7_number 12 = .ok (.if_icmp .ge 68, 3) := by decide +kernel
theorem dX7_number_15 : decode cX7_number 15 = .ok (.aload_n 0, 1) := by decide +kernel
theorem dX7_number_16 : decode cX7_number 16 = .ok (.getfield 7, 3) := by decide +kernel
theorem dX7_number_19 : decode cX7_number 19 = .ok (.aload_n 0, 1) := by decide +kernel
theorem dX7_number_20 : decode cX7_number 20 = .ok (.getfield 69, 3) := by decide +kernel
theorem dX7_number_23 : decode cX7_number 23 = .ok (.baload, 1) := by decide +kernel
theorem dX7_number_24 : decode cX7_number 24 = .ok (.i2l, 1) := by decide +kernel
theorem dX7_number_25 : decode cX7_number 25 = .ok (.ldc2_w 72, 3) := by decide +kernel
theorem dX7_number_28 : decode cX7_number 28 = .ok (.ldc2_w 74, 3) := by decide +kernel
theorem dX7_number_31 : decode cX7_number 31 = .ok (.invokestatic 61, 3) := by decide +kernel
theorem dX7_number_34 : decode cX7_number 34 = .ok (.ifCond .eq 46, 3) := by decide +kernel
theorem dX7_number_37 : decode cX7_number 37 = .ok (.iload_n 2, 1) := by decide +kernel
theorem dX7_number_38 : decode cX7_number 38 = .ok (.iconst 2, 1) := by decide +kernel
theorem dX7_number_39 : decode cX7_number 39 = .ok (.if_icmp .ge 23, 3) := by decide +kernel
theorem dX7_number_42 : decode cX7_number 42 = .ok (.bipush 10, 2) := by decide +kernel
theorem dX7_number_44 : decode cX7_number 44 = .ok (.iload_n 1, 1) := by decide +kernel
theorem dX7_number_45 : decode cX7_number 45 = .ok (.imul, 1) := by decide +kernel
theorem dX7_number_46 : decode cX7_number 46 = .ok (.aload_n 0, 1) := by decide +kernel
theorem dX7_number_47 : decode cX7_number 47 = .ok (.getfield 7, 3) := by decide +kernel
theorem dX7_number_50 : decode cX7_number 50 = .ok (.aload_n 0, 1) := by decide +kernel
theorem dX7_number_51 : decode cX7_number 51 = .ok (.getfield 69, 3) := by decide +kernel
theorem dX7_number_54 : decode cX7_number 54 = .ok (.baload, 1) := by decide +kernel
theorem dX7_number_55 : decode cX7_number 55 = .ok (.iadd, 1) := by decide +kernel
theorem dX7_number_56 : decode cX7_number 56 = .ok (.bipush 48, 2) := by decide +kernel
theorem dX7_number_58 : decode cX7_number 58 = .ok (.isub, 1) := by decide +kernel
theorem dX7_number_59 : decode cX7_number 59 = .ok (.goto 4, 3) := by decide +kernel
theorem dX7_number_62 : decode cX7_number 62 = .ok (.iload_n 1, 1) := by decide +kernel
theorem dX7_number_63 : decode cX7_number 63 = .ok (.istore_n 1, 1) := by decide +kernel
theorem dX7_number_64 : decode cX7_number 64 = .ok (.iinc 2 1, 3) := by decide +kernel
theorem dX7_number_67 : decode cX7_number 67 = .ok (.aload_n 0, 1) := by decide +kernel
theorem dX7_number_68 : decode cX7_number 68 = .ok (.dup, 1) := by decide +kernel
theorem dX7_number_69 : decode cX7_number 69 = .ok (.getfield 69, 3) := by decide +kernel
theorem dX7_number_72 : decode cX7_number 72 = .ok (.iconst 1, 1) := by decide +kernel
theorem dX7_number_73 : decode cX7_number 73 = .ok (.iadd, 1) := by decide +kernel
theorem dX7_number_74 : decode cX7_number 74 = .ok (.putfield 69, 3) := by decide +kernel
theorem dX7_number_77 : decode cX7_number 77 = .ok (.goto (-73), 3) := by decide +kernel
theorem dX7_number_80 : decode cX7_number 80 = .ok (.iload_n 2, 1) := by decide +kernel
theorem dX7_number_81 : decode cX7_number 81 = .ok (.i2l, 1) := by decide +kernel
theorem dX7_number_82 : decode cX7_number 82 = .ok (.lconst 1, 1) := by decide +kernel
theorem dX7_number_83 : decode cX7_number 83 = .ok (.ldc2_w 76, 3) := by decide +kernel
theorem dX7_number_86 : decode cX7_number 86 = .ok (.invokestatic 61, 3) := by decide +kernel
theorem dX7_number_89 : decode cX7_number 89 = .ok (.ifCond .eq 7, 3) := by decide +kernel
theorem dX7_number_92 : decode cX7_number 92 = .ok (.iload_n 1, 1) := by decide +kernel
theorem dX7_number_93 : decode cX7_number 93 = .ok (.goto 4, 3) := by decide +kernel
theorem dX7_number_96 : decode cX7_number 96 = .ok (.iconst (-1), 1) := by decide +kernel
theorem dX7_number_97 : decode cX7_number 97 = .ok (.ireturn, 1) := by decide +kernel
theorem dX7_numbers_0 : decode cX7_numbers 0 = .ok (.iload_n 0, 1) := by decide +kernel
theorem dX7_numbers_1 : decode cX7_numbers 1 = .ok (.bipush 100, 2) := by decide +kernel
theorem dX7_numbers_3 : decode cX7_numbers 3 = .ok (.if_icmp .eq 15, 3) := by decide +kernel
theorem dX7_numbers_6 : decode cX7_numbers 6 = .ok (.iload_n 0, 1) := by decide +kernel
theorem dX7_numbers_7 : decode cX7_numbers 7 = .ok (.bipush 108, 2) := by decide +kernel
theorem dX7_numbers_9 : decode cX7_numbers 9 = .ok (.if_icmp .eq 9, 3) := by decide +kernel
theorem dX7_numbers_12 : decode cX7_numbers 12 = .ok (.iload_n 0, 1) := by decide +kernel
theorem dX7_numbers_13 : decode cX7_numbers 13 = .ok (.bipush 103, 2) := by decide +kernel
theorem dX7_numbers_15 : decode cX7_numbers 15 = .ok (.if_icmp .ne 7, 3) := by decide +kernel
theorem dX7_numbers_18 : decode cX7_numbers 18 = .ok (.iconst 3, 1) := by decide +kernel
theorem dX7_numbers_19 : decode cX7_numbers 19 = .ok (.goto 42, 3) := by decide +kernel
theorem dX7_numbers_22 : decode cX7_numbers 22 = .ok (.iload_n 0, 1) := by decide +kernel
theorem dX7_numbers_23 : decode cX7_numbers 23 = .ok (.bipush 112, 2) := by decide +kernel
theorem dX7_numbers_25 : decode cX7_numbers 25 = .ok (.if_icmp .eq 9, 3) := by decide +kernel
theorem dX7_numbers_28 : decode cX7_numbers 28 = .ok (.iload_n 0, 1) := by decide +kernel
theorem dX7_numbers_29 : decode cX7_numbers 29 = .ok (.bipush 117, 2) := by decide +kernel
theorem dX7_numbers_31 : decode cX7_numbers 31 = .ok (.if_icmp .ne 7, 3) := by decide +kernel
theorem dX7_numbers_34 : decode cX7_numbers 34 = .ok (.iconst 2, 1) := by decide +kernel
theorem dX7_numbers_35 : decode cX7_numbers 35 = .ok (.goto 26, 3) := by decide +kernel
theorem dX7_numbers_38 : decode cX7_numbers 38 = .ok (.iload_n 0, 1) := by decide +kernel
theorem dX7_numbers_39 : decode cX7_numbers 39 = .ok (.bipush 114, 2) := by decide +kernel
theorem dX7_numbers_41 : decode cX7_numbers 41 = .ok (.if_icmp .eq 15, 3) := by decide +kernel
theorem dX7_numbers_44 : decode cX7_numbers 44 = .ok (.iload_n 0, 1) := by decide +kernel
theorem dX7_numbers_45 : decode cX7_numbers 45 = .ok (.bipush 119, 2) := by decide +kernel
theorem dX7_numbers_47 : decode cX7_numbers 47 = .ok (.if_icmp .eq 9, 3) := by decide +kernel
theorem dX7_numbers_50 : decode cX7_numbers 50 = .ok (.iload_n 0, 1) := by decide +kernel
theorem dX7_numbers_51 : decode cX7_numbers 51 = .ok (.bipush 111, 2) := by decide +kernel
theorem dX7_numbers_53 : decode cX7_numbers 53 = .ok (.if_icmp .ne 7, 3) := by decide +kernel
theorem dX7_numbers_56 : decode cX7_numbers 56 = .ok (.iconst 1, 1) := by decide +kernel
theorem dX7_numbers_57 : decode cX7_numbers 57 = .ok (.goto 4, 3) := by decide +kernel
theorem dX7_numbers_60 : decode cX7_numbers 60 = .ok (.iconst 0, 1) := by decide +kernel
theorem dX7_numbers_61 : decode cX7_numbers 61 = .ok (.ireturn, 1) := by decide +kernel
set_option maxRecDepth 20000 in
theorem ggX7_isItem_X7_numbers : GoodIn wsX7_isItem wsX7_numbers := goodIn_r _ [8] (by decide +kernel) (by decide +kernel)
set_option maxRecDepth 20000 in
theorem gX7_isItem_X7_numbers : GoodIn wsX7_isItem (va_wsS RX7 78 yX7_numbers wsX7_numbers) := goodIn_app (goodIn_of _ (by decide +kernel)) ggX7_isItem_X7_numbers
set_option maxRecDepth 20000 in
theorem ggX7_isItem_X7_number : GoodIn wsX7_isItem wsX7_number := goodIn_r _ [12, 2, 3, 1, 13, 14, 15, 16, 17, 7, 18, 41, 42, 43, 44, 45, 46, 47, 48, 49, 50, 51, 52, 53, 54, 55, 56, 57, 58, 59] (by decide +kernel) (by decide +kernel)
set_option maxRecDepth 20000 in
theorem gX7_isItem_X7_number : GoodIn wsX7_isItem (wsV RX7 82 RX7 yX7_number wsX7_number) := goodIn_app (goodIn_of _ (by decide +kernel)) ggX7_isItem_X7_number
set_option maxRecDepth 20000 in
theorem ggX7_isItem_X7_isGood : GoodIn wsX7_isItem wsX7_isGood := goodIn_r _ [22, 4, 23, 15, 24, 25, 26, 27, 28, 29, 30, 16, 17, 7, 18, 31, 32, 33, 34, 35, 36, 37, 38, 39, 40, 41, 42, 43, 44, 45, 46, 47, 48, 49, 50, 51, 52, 53, 54, 55, 56, 57, 58, 59] (by decide +kernel) (by decide +kernel)
set_option maxRecDepth 20000 in
theorem gX7_isItem_X7_isGood : GoodIn wsX7_isItem (wsV RX7 86 RX7 yX7_isGood wsX7_isGood) := goodIn_app (goodIn_of _ (by decide +kernel)) ggX7_isItem_X7_isGood
theorem dX7_isItem_0 : decode cX7_isItem 0 = .ok (.aload_n 0, 1) := by decide +kernel
theorem dX7_isItem_1 : decode cX7_isItem 1 = .ok (.getfield 7, 3) := by decide +kernel
theorem dX7_isItem_4 : decode cX7_isItem 4 = .ok (.aload_n 0, 1) := by decide +kernel
theorem dX7_isItem_5 : decode cX7_isItem 5 = .ok (.getfield 69, 3) := by decide +kernel
theorem dX7_isItem_8 : decode cX7_isItem 8 = .ok (.baload, 1) := by decide +kernel
theorem dX7_isItem_9 : decode cX7_isItem 9 = .ok (.istore_n 1, 1) := by decide +kernel
theorem dX7_isItem_10 : decode cX7_isItem 10 = .ok (.aload_n 0, 1) := by decide +kernel
theorem dX7_isItem_11 : decode cX7_isItem 11 = .ok (.dup, 1) := by decide +kernel
theorem dX7_isItem_12 : decode cX7_isItem 12 = .ok (.getfield 69, 3) := by decide +kernel
theorem dX7_isItem_15 : decode cX7_isItem 15 = .ok (.iconst 1, 1) := by decide +kernel
theorem dX7_isItem_16 : decode cX7_isItem 16 = .ok (.iadd, 1) := by decide +kernel
theorem dX7_isItem_17 : decode cX7_isItem 17 = .ok (.putfield 69, 3) := by decide +kernel
theorem dX7_isItem_20 : decode cX7_isItem 20 = .ok (.iload_n 1, 1) := by decide +kernel
theorem dX7_isItem_21 : decode cX7_isItem 21 = .ok (.invokestatic 78, 3) := by decide +kernel
theorem dX7_isItem_24 : decode cX7_isItem 24 = .ok (.istore_n 2, 1) := by decide +kernel
theorem dX7_isItem_25 : decode cX7_isItem 25 = .ok (.iload_n 2, 1) := by decide +kernel
theorem dX7_isItem_26 : decode cX7_isItem 26 = .ok (.ifCond .le 7, 3) := by decide +kernel
theorem dX7_isItem_29 : decode cX7_isItem 29 = .ok (.iconst 1, 1) := by decide +kernel
theorem dX7_isItem_30 : decode cX7_isItem 30 = .ok (.goto 4, 3) := by decide +kernel
theorem dX7_isItem_33 : decode cX7_isItem 33 = .ok (.iconst 0, 1) := by decide +kernel
theorem dX7_isItem_34 : decode cX7_isItem 34 = .ok (.istore_n 3, 1) := by decide +kernel
theorem dX7_isItem_35 : decode cX7_isItem 35 = .ok (.iconst 0, 1) := by decide +kernel
theorem dX7_isItem_36 : decode cX7_isItem 36 = .ok (.istore 4, 2) := by decide +kernel
theorem dX7_isItem_38 : decode cX7_isItem 38 = .ok (.iload 4, 2) := by decide +kernel
theorem dX7_isItem_40 : decode cX7_isItem 40 = .ok (.iload_n 2, 1) := by decide +kernel
theorem dX7_isItem_41 : decode cX7_isItem 41 = .ok (.if_icmp .ge 103, 3) := by decide +kernel
theorem dX7_isItem_44 : decode cX7_isItem 44 = .ok (.iload_n 3, 1) := by decide +kernel
theorem dX7_isItem_45 : decode cX7_isItem 45 = .ok (.ifCond .eq 99, 3) := by decide +kernel
theorem dX7_isItem_48 : decode cX7_isItem 48 = .ok (.iload 4, 2) := by decide +kernel
theorem dX7_isItem_50 : decode cX7_isItem 50 = .ok (.ifCond .eq 28, 3) := by decide +kernel
theorem dX7_isItem_53 : decode cX7_isItem 53 = .ok (.aload_n 0, 1) := by decide +kernel
theorem dX7_isItem_54 : decode cX7_isItem 54 = .ok (.getfield 69, 3) := by decide +kernel
theorem dX7_isItem_57 : decode cX7_isItem 57 = .ok (.aload_n 0, 1) := by decide +kernel
theorem dX7_isItem_58 : decode cX7_isItem 58 = .ok (.getfield 65, 3) := by decide +kernel
theorem dX7_isItem_61 : decode cX7_isItem 61 = .ok (.if_icmp .ge 21, 3) := by decide +kernel
theorem dX7_isItem_64 : decode cX7_isItem 64 = .ok (.aload_n 0, 1) := by decide +kernel
theorem dX7_isItem_65 : decode cX7_isItem 65 = .ok (.getfield 7, 3) := by decide +kernel
theorem dX7_isItem_68 : decode cX7_isItem 68 = .ok (.aload_n 0, 1) := by decide +kernel
theorem dX7_isItem_69 : decode cX7_isItem 69 = .ok (.getfield 69, 3) := by decide +kernel
theorem dX7_isItem_72 : decode cX7_isItem 72 = .ok (.baload, 1) := by decide +kernel
theorem dX7_isItem_73 : decode cX7_isItem 73 = .ok (.bipush 44, 2) := by decide +kernel
theorem dX7_isItem_75 : decode cX7_isItem 75 = .ok (.if_icmp .ne 7, 3) := by decide +kernel
theorem dX7_isItem_78 : decode cX7_isItem 78 = .ok (.iconst 1, 1) := by decide +kernel
theorem dX7_isItem_79 : decode cX7_isItem 79 = .ok (.goto 4, 3) := by decide +kernel
theorem dX7_isItem_82 : decode cX7_isItem 82 = .ok (.iconst 0, 1) := by decide +kernel
theorem dX7_isItem_83 : decode cX7_isItem 83 = .ok (.istore_n 3, 1) := by decide +kernel
theorem dX7_isItem_84 : decode cX7_isItem 84 = .ok (.aload_n 0, 1) := by decide +kernel
theorem dX7_isItem_85 : decode cX7_isItem 85 = .ok (.dup, 1) := by decide +kernel
theorem dX7_isItem_86 : decode cX7_isItem 86 = .ok (.getfield 69, 3) := by decide +kernel
theorem dX7_isItem_89 : decode cX7_isItem 89 = .ok (.iload 4, 2) := by decide +kernel
theorem dX7_isItem_91 : decode cX7_isItem 91 = .ok (.ifCond .ne 7, 3) := by decide +kernel
theorem dX7_isItem_94 : decode cX7_isItem 94 = .ok (.iconst 0, 1) := by decide +kernel
theorem dX7_isItem_95 : decode cX7_isItem 95 = .ok (.goto 4, 3) := by decide +kernel
theorem dX7_isItem_98 : decode cX7_isItem 98 = .ok (.iconst 1, 1) := by decide +kernel
theorem dX7_isItem_99 : decode cX7_isItem 99 = .ok (.iadd, 1) := by decide +kernel
theorem dX7_isItem_100 : decode cX7_isItem 100 = .ok (.putfield 69, 3) := by decide +kernel
theorem dX7_isItem_103 : decode cX7_isItem 103 = .ok (.aload_n 0, 1) := by decide +kernel
theorem dX7_isItem_104 : decode cX7_isItem 104 = .ok (.getfield 50, 3) := by decide +kernel
theorem dX7_isItem_107 : decode cX7_isItem 107 = .ok (.iload 4, 2) := by decide +kernel
theorem dX7_isItem_109 : decode cX7_isItem 109 = .ok (.iload_n 3, 1) := by decide +kernel
theorem dX7_isItem_110 : decode cX7_isItem 110 = .ok (.ifCond .eq 10, 3) := by decide +kernel
theorem dX7_isItem_113 : decode cX7_isItem 113 = .ok (.aload_n 0, 1) := by decide +kernel
theorem dX7_isItem_114 : decode cX7_isItem 114 = .ok (.invokevirtual 82, 3) := by decide +kernel
theorem dX7_isItem_117 : decode cX7_isItem 117 = .ok (.goto 4, 3) := by decide +kernel
theorem dX7_isItem_120 : decode cX7_isItem 120 = .ok (.iconst (-1), 1) := by decide +kernel
theorem dX7_isItem_121 : decode cX7_isItem 121 = .ok (.iastore, 1) := by decide +kernel
theorem dX7_isItem_122 : decode cX7_isItem 122 = .ok (.aload_n 0, 1) := by decide +kernel
theorem dX7_isItem_123 : decode cX7_isItem 123 = .ok (.getfield 50, 3) := by decide +kernel
theorem dX7_isItem_126 : decode cX7_isItem 126 = .ok (.iload 4, 2) := by decide +kernel
theorem dX7_isItem_128 : decode cX7_isItem 128 = .ok (.iaload, 1) := by decide +kernel
theorem dX7_isItem_129 : decode cX7_isItem 129 = .ok (.ifCond .lt 7, 3) := by decide +kernel
theorem dX7_isItem_132 : decode cX7_isItem 132 = .ok (.iconst 1, 1) := by decide +kernel
theorem dX7_isItem_133 : decode cX7_isItem 133 = .ok (.goto 4, 3) := by decide +kernel
theorem dX7_isItem_136 : decode cX7_isItem 136 = .ok (.iconst 0, 1) := by decide +kernel
theorem dX7_isItem_137 : decode cX7_isItem 137 = .ok (.istore_n 3, 1) := by decide +kernel
theorem dX7_isItem_138 : decode cX7_isItem 138 = .ok (.iinc 4 1, 3) := by decide +kernel
theorem dX7_isItem_141 : decode cX7_isItem 141 = .ok (.goto (-103), 3) := by decide +kernel
theorem dX7_isItem_144 : decode cX7_isItem 144 = .ok (.iload_n 3, 1) := by decide +kernel
theorem dX7_isItem_145 : decode cX7_isItem 145 = .ok (.ifCond .eq 32, 3) := by decide +kernel
theorem dX7_isItem_148 : decode cX7_isItem 148 = .ok (.aload_n 0, 1) := by decide +kernel
theorem dX7_isItem_149 : decode cX7_isItem 149 = .ok (.getfield 69, 3) := by decide +kernel
theorem dX7_isItem_152 : decode cX7_isItem 152 = .ok (.aload_n 0, 1) := by decide +kernel
theorem dX7_isItem_153 : decode cX7_isItem 153 = .ok (.getfield 65, 3) := by decide +kernel
theorem dX7_isItem_156 : decode cX7_isItem 156 = .ok (.if_icmp .ge 21, 3) := by decide +kernel
theorem dX7_isItem_159 : decode cX7_isItem 159 = .ok (.aload_n 0, 1) := by decide +kernel
theorem dX7_isItem_160 : decode cX7_isItem 160 = .ok (.getfield 7, 3) := by decide +kernel
theorem dX7_isItem_163 : decode cX7_isItem 163 = .ok (.aload_n 0, 1) := by decide +kernel
theorem dX7_isItem_164 : decode cX7_isItem 164 = .ok (.getfield 69, 3) := by decide +kernel
theorem dX7_isItem_167 : decode cX7_isItem 167 = .ok (.baload, 1) := by decide +kernel
theorem dX7_isItem_168 : decode cX7_isItem 168 = .ok (.bipush 59, 2) := by decide +kernel
theorem dX7_isItem_170 : decode cX7_isItem 170 = .ok (.if_icmp .ne 7, 3) := by decide +kernel
theorem dX7_isItem_173 : decode cX7_isItem 173 = .ok (.iconst 1, 1) := by decide +kernel
theorem dX7_isItem_174 : decode cX7_isItem 174 = .ok (.goto 4, 3) := by decide +kernel
theorem dX7_isItem_177 : decode cX7_isItem 177 = .ok (.iconst 0, 1) := by decide +kernel
theorem dX7_isItem_178 : decode cX7_isItem 178 = .ok (.istore_n 3, 1) := by decide +kernel
theorem dX7_isItem_179 : decode cX7_isItem 179 = .ok (.aload_n 0, 1) := by decide +kernel
theorem dX7_isItem_180 : decode cX7_isItem 180 = .ok (.dup, 1) := by decide +kernel
theorem dX7_isItem_181 : decode cX7_isItem 181 = .ok (.getfield 69, 3) := by decide +kernel
theorem dX7_isItem_184 : decode cX7_isItem 184 = .ok (.iconst 1, 1) := by decide +kernel
theorem dX7_isItem_185 : decode cX7_isItem 185 = .ok (.iadd, 1) := by decide +kernel
theorem dX7_isItem_186 : decode cX7_isItem 186 = .ok (.putfield 69, 3) := by decide +kernel
theorem dX7_isItem_189 : decode cX7_isItem 189 = .ok (.iload_n 3, 1) := by decide +kernel
theorem dX7_isItem_190 : decode cX7_isItem 190 = .ok (.ifCond .eq 15, 3) := by decide +kernel
theorem dX7_isItem_193 : decode cX7_isItem 193 = .ok (.aload_n 0, 1) := by decide +kernel
theorem dX7_isItem_194 : decode cX7_isItem 194 = .ok (.iload_n 1, 1) := by decide +kernel
theorem dX7_isItem_195 : decode cX7_isItem 195 = .ok (.invokevirtual 86, 3) := by decide +kernel
theorem dX7_isItem_198 : decode cX7_isItem 198 = .ok (.ifCond .eq 7, 3) := by decide +kernel
theorem dX7_isItem_201 : decode cX7_isItem 201 = .ok (.iconst 1, 1) := by decide +kernel
theorem dX7_isItem_202 : decode cX7_isItem 202 = .ok (.goto 4, 3) := by decide +kernel
theorem dX7_isItem_205 : decode cX7_isItem 205 = .ok (.iconst 0, 1) := by decide +kernel
theorem dX7_isItem_206 : decode cX7_isItem 206 = .ok (.ireturn, 1) := by decide +kernel
set_option maxRecDepth 20000 in
theorem ggX7_isGood_X7_in : GoodIn wsX7_isGood wsX7_in := goodIn_r _ [14] (by decide +kernel) (by decide +kernel)
set_option maxRecDepth 20000 in
theorem gX7_isGood_X7_in : GoodIn wsX7_isGood (va_wsS RX7 61 yX7_in wsX7_in) := goodIn_app (goodIn_of _ (by decide +kernel)) ggX7_isGood_X7_in
set_option maxRecDepth 20000 in
theorem ggX7_isGood_X7_isDoorPut : GoodIn wsX7_isGood wsX7_isDoorPut := goodIn_r _ [18, 19, 5, 1, 25, 26, 27, 28, 29, 30, 31, 32, 33, 34, 35, 36, 37, 38, 39, 40, 41, 42, 43] (by decide +kernel) (by decide +kernel)
set_option maxRecDepth 20000 in
theorem gX7_isGood_X7_isDoorPut : GoodIn wsX7_isGood (wsV RX7 92 RX7 yX7_isDoorPut wsX7_isDoorPut) := goodIn_app (goodIn_of _ (by decide +kernel)) ggX7_isGood_X7_isDoorPut
set_option maxRecDepth 20000 in
theorem ggX7_isGood_X7_isLodgerPut : GoodIn wsX7_isGood wsX7_isLodgerPut := goodIn_r _ [23, 24, 7, 1, 25, 26, 27, 28, 29, 30, 31, 32, 33, 34, 35, 36, 37, 38, 39, 40, 41, 42, 43] (by decide +kernel) (by decide +kernel)
set_option maxRecDepth 20000 in
theorem gX7_isGood_X7_isLodgerPut : GoodIn wsX7_isGood (wsV RX7 98 RX7 yX7_isLodgerPut wsX7_isLodgerPut) := goodIn_app (goodIn_of _ (by decide +kernel)) ggX7_isGood_X7_isLodgerPut
theorem dX7_isGood_0 : decode cX7_isGood 0 = .ok (.aload_n 0, 1) := by decide +kernel
theorem dX7_isGood_1 : decode cX7_isGood 1 = .ok (.getfield 50, 3) := by decide +kernel
theorem dX7_isGood_4 : decode cX7_isGood 4 = .ok (.iconst 0, 1) := by decide +kernel
theorem dX7_isGood_5 : decode cX7_isGood 5 = .ok (.iaload, 1) := by decide +kernel
theorem dX7_isGood_6 : decode cX7_isGood 6 = .ok (.istore_n 2, 1) := by decide +kernel
theorem dX7_isGood_7 : decode cX7_isGood 7 = .ok (.aload_n 0, 1) := by decide +kernel
theorem dX7_isGood_8 : decode cX7_isGood 8 = .ok (.getfield 50, 3) := by decide +kernel
theorem dX7_isGood_11 : decode cX7_isGood 11 = .ok (.iconst 1, 1) := by decide +kernel
theorem dX7_isGood_12 : decode cX7_isGood 12 = .ok (.iaload, 1) := by decide +kernel
theorem dX7_isGood_13 : decode cX7_isGood 13 = .ok (.istore_n 3, 1) := by decide +kernel
theorem dX7_isGood_14 : decode cX7_isGood 14 = .ok (.aload_n 0, 1) := by decide +kernel
theorem dX7_isGood_15 : decode cX7_isGood 15 = .ok (.getfield 50, 3) := by decide +kernel
theorem dX7_isGood_18 : decode cX7_isGood 18 = .ok (.iconst 2, 1) := by decide +kernel
theorem dX7_isGood_19 : decode cX7_isGood 19 = .ok (.iaload, 1) := by decide +kernel
theorem dX7_isGood_20 : decode cX7_isGood 20 = .ok (.istore 4, 2) := by decide +kernel
theorem dX7_isGood_22 : decode cX7_isGood 22 = .ok (.iload_n 1, 1) := by decide +kernel
theorem dX7_isGood_23 : decode cX7_isGood 23 = .ok (.tableswitch 344 100 119 #[129, 344, 344, 233, 344, 344, 344, 344, 185, 344, 344, 326, 272, 344, 93, 344, 344, 344, 344, 306], 93) := by decide +kernel
theorem dX7_isGood_116 : decode cX7_isGood 116 = .ok (.aload_n 0, 1) := by decide +kernel
theorem dX7_isGood_117 : decode cX7_isGood 117 = .ok (.getfield 13, 3) := by decide +kernel
theorem dX7_isGood_120 : decode cX7_isGood 120 = .ok (.iconst 5, 1) := by decide +kernel
theorem dX7_isGood_121 : decode cX7_isGood 121 = .ok (.iload_n 2, 1) := by decide +kernel
theorem dX7_isGood_122 : decode cX7_isGood 122 = .ok (.iastore, 1) := by decide +kernel
theorem dX7_isGood_123 : decode cX7_isGood 123 = .ok (.iload_n 2, 1) := by decide +kernel
theorem dX7_isGood_124 : decode cX7_isGood 124 = .ok (.i2l, 1) := by decide +kernel
theorem dX7_isGood_125 : decode cX7_isGood 125 = .ok (.ldc2_w 76, 3) := by decide +kernel
theorem dX7_isGood_128 : decode cX7_isGood 128 = .ok (.ldc2_w 90, 3) := by decide +kernel
theorem dX7_isGood_131 : decode cX7_isGood 131 = .ok (.invokestatic 61, 3) := by decide +kernel
theorem dX7_isGood_134 : decode cX7_isGood 134 = .ok (.ifCond .eq 16, 3) := by decide +kernel
theorem dX7_isGood_137 : decode cX7_isGood 137 = .ok (.aload_n 0, 1) := by decide +kernel
theorem dX7_isGood_138 : decode cX7_isGood 138 = .ok (.getfield 17, 3) := by decide +kernel
theorem dX7_isGood_141 : decode cX7_isGood 141 = .ok (.iconst 1, 1) := by decide +kernel
theorem dX7_isGood_142 : decode cX7_isGood 142 = .ok (.iaload, 1) := by decide +kernel
theorem dX7_isGood_143 : decode cX7_isGood 143 = .ok (.ifCond .ne 7, 3) := by decide +kernel
theorem dX7_isGood_146 : decode cX7_isGood 146 = .ok (.iconst 1, 1) := by decide +kernel
theorem dX7_isGood_147 : decode cX7_isGood 147 = .ok (.goto 4, 3) := by decide +kernel
theorem dX7_isGood_150 : decode cX7_isGood 150 = .ok (.iconst 0, 1) := by decide +kernel
theorem dX7_isGood_151 : decode cX7_isGood 151 = .ok (.ireturn, 1) := by decide +kernel
theorem dX7_isGood_152 : decode cX7_isGood 152 = .ok (.iload_n 2, 1) := by decide +kernel
theorem dX7_isGood_153 : decode cX7_isGood 153 = .ok (.aload_n 0, 1) := by decide +kernel
theorem dX7_isGood_154 : decode cX7_isGood 154 = .ok (.getfield 13, 3) := by decide +kernel
theorem dX7_isGood_157 : decode cX7_isGood 157 = .ok (.iconst 5, 1) := by decide +kernel
theorem dX7_isGood_158 : decode cX7_isGood 158 = .ok (.iaload, 1) := by decide +kernel
theorem dX7_isGood_159 : decode cX7_isGood 159 = .ok (.if_icmp .ge 47, 3) := by decide +kernel
theorem dX7_isGood_162 : decode cX7_isGood 162 = .ok (.iload_n 3, 1) := by decide +kernel
theorem dX7_isGood_163 : decode cX7_isGood 163 = .ok (.aload_n 0, 1) := by decide +kernel
theorem dX7_isGood_164 : decode cX7_isGood 164 = .ok (.getfield 13, 3) := by decide +kernel
theorem dX7_isGood_167 : decode cX7_isGood 167 = .ok (.iconst 5, 1) := by decide +kernel
theorem dX7_isGood_168 : decode cX7_isGood 168 = .ok (.iaload, 1) := by decide +kernel
theorem dX7_isGood_169 : decode cX7_isGood 169 = .ok (.if_icmp .ge 37, 3) := by decide +kernel
theorem dX7_isGood_172 : decode cX7_isGood 172 = .ok (.iload_n 2, 1) := by decide +kernel
theorem dX7_isGood_173 : decode cX7_isGood 173 = .ok (.iload_n 3, 1) := by decide +kernel
theorem dX7_isGood_174 : decode cX7_isGood 174 = .ok (.if_icmp .eq 32, 3) := by decide +kernel
theorem dX7_isGood_177 : decode cX7_isGood 177 = .ok (.iload 4, 2) := by decide +kernel
theorem dX7_isGood_179 : decode cX7_isGood 179 = .ok (.bipush 8, 2) := by decide +kernel
theorem dX7_isGood_181 : decode cX7_isGood 181 = .ok (.if_icmp .ge 25, 3) := by decide +kernel
theorem dX7_isGood_184 : decode cX7_isGood 184 = .ok (.aload_n 0, 1) := by decide +kernel
theorem dX7_isGood_185 : decode cX7_isGood 185 = .ok (.getfield 17, 3) := by decide +kernel
theorem dX7_isGood_188 : decode cX7_isGood 188 = .ok (.iconst 1, 1) := by decide +kernel
theorem dX7_isGood_189 : decode cX7_isGood 189 = .ok (.iaload, 1) := by decide +kernel
theorem dX7_isGood_190 : decode cX7_isGood 190 = .ok (.bipush 8, 2) := by decide +kernel
theorem dX7_isGood_192 : decode cX7_isGood 192 = .ok (.if_icmp .ge 14, 3) := by decide +kernel
theorem dX7_isGood_195 : decode cX7_isGood 195 = .ok (.aload_n 0, 1) := by decide +kernel
theorem dX7_isGood_196 : decode cX7_isGood 196 = .ok (.invokevirtual 92, 3) := by decide +kernel
theorem dX7_isGood_199 : decode cX7_isGood 199 = .ok (.ifCond .eq 7, 3) := by decide +kernel
theorem dX7_isGood_202 : decode cX7_isGood 202 = .ok (.iconst 1, 1) := by decide +kernel
theorem dX7_isGood_203 : decode cX7_isGood 203 = .ok (.goto 4, 3) := by decide +kernel
theorem dX7_isGood_206 : decode cX7_isGood 206 = .ok (.iconst 0, 1) := by decide +kernel
theorem dX7_isGood_207 : decode cX7_isGood 207 = .ok (.ireturn, 1) := by decide +kernel
theorem dX7_isGood_208 : decode cX7_isGood 208 = .ok (.iload_n 2, 1) := by decide +kernel
theorem dX7_isGood_209 : decode cX7_isGood 209 = .ok (.bipush 6, 2) := by decide +kernel
theorem dX7_isGood_211 : decode cX7_isGood 211 = .ok (.if_icmp .ge 43, 3) := by decide +kernel
theorem dX7_isGood_214 : decode cX7_isGood 214 = .ok (.iload_n 3, 1) := by decide +kernel
theorem dX7_isGood_215 : decode cX7_isGood 215 = .ok (.i2l, 1) := by decide +kernel
theorem dX7_isGood_216 : decode cX7_isGood 216 = .ok (.lconst 1, 1) := by decide +kernel
theorem dX7_isGood_217 : decode cX7_isGood 217 = .ok (.ldc2_w 96, 3) := by decide +kernel
theorem dX7_isGood_220 : decode cX7_isGood 220 = .ok (.invokestatic 61, 3) := by decide +kernel
theorem dX7_isGood_223 : decode cX7_isGood 223 = .ok (.ifCond .eq 31, 3) := by decide +kernel
theorem dX7_isGood_226 : decode cX7_isGood 226 = .ok (.iload 4, 2) := by decide +kernel
theorem dX7_isGood_228 : decode cX7_isGood 228 = .ok (.bipush 6, 2) := by decide +kernel
theorem dX7_isGood_230 : decode cX7_isGood 230 = .ok (.if_icmp .ge 24, 3) := by decide +kernel
theorem dX7_isGood_233 : decode cX7_isGood 233 = .ok (.aload_n 0, 1) := by decide +kernel
theorem dX7_isGood_234 : decode cX7_isGood 234 = .ok (.getfield 26, 3) := by decide +kernel
theorem dX7_isGood_237 : decode cX7_isGood 237 = .ok (.iconst 1, 1) := by decide +kernel
theorem dX7_isGood_238 : decode cX7_isGood 238 = .ok (.iaload, 1) := by decide +kernel
theorem dX7_isGood_239 : decode cX7_isGood 239 = .ok (.iconst 4, 1) := by decide +kernel
theorem dX7_isGood_240 : decode cX7_isGood 240 = .ok (.if_icmp .ge 14, 3) := by decide +kernel
theorem dX7_isGood_243 : decode cX7_isGood 243 = .ok (.aload_n 0, 1) := by decide +kernel
theorem dX7_isGood_244 : decode cX7_isGood 244 = .ok (.invokevirtual 98, 3) := by decide +kernel
theorem dX7_isGood_247 : decode cX7_isGood 247 = .ok (.ifCond .eq 7, 3) := by decide +kernel
theorem dX7_isGood_250 : decode cX7_isGood 250 = .ok (.iconst 1, 1) := by decide +kernel
theorem dX7_isGood_251 : decode cX7_isGood 251 = .ok (.goto 4, 3) := by decide +kernel
theorem dX7_isGood_254 : decode cX7_isGood 254 = .ok (.iconst 0, 1) := by decide +kernel
theorem dX7_isGood_255 : decode cX7_isGood 255 = .ok (.ireturn, 1) := by decide +kernel
theorem dX7_isGood_256 : decode cX7_isGood 256 = .ok (.iload_n 2, 1) := by decide +kernel
theorem dX7_isGood_257 : decode cX7_isGood 257 = .ok (.aload_n 0, 1) := by decide +kernel
theorem dX7_isGood_258 : decode cX7_isGood 258 = .ok (.getfield 17, 3) := by decide +kernel
theorem dX7_isGood_261 : decode cX7_isGood 261 = .ok (.iconst 1, 1) := by decide +kernel
theorem dX7_isGood_262 : decode cX7_isGood 262 = .ok (.iaload, 1) := by decide +kernel
theorem dX7_isGood_263 : decode cX7_isGood 263 = .ok (.if_icmp .ge 13, 3) := by decide +kernel
theorem dX7_isGood_266 : decode cX7_isGood 266 = .ok (.iload_n 3, 1) := by decide +kernel
theorem dX7_isGood_267 : decode cX7_isGood 267 = .ok (.aload_n 0, 1) := by decide +kernel
theorem dX7_isGood_268 : decode cX7_isGood 268 = .ok (.getfield 26, 3) := by decide +kernel
theorem dX7_isGood_271 : decode cX7_isGood 271 = .ok (.iconst 1, 1) := by decide +kernel
theorem dX7_isGood_272 : decode cX7_isGood 272 = .ok (.iaload, 1) := by decide +kernel
theorem dX7_isGood_273 : decode cX7_isGood 273 = .ok (.if_icmp .lt 5, 3) := by decide +kernel
theorem dX7_isGood_276 : decode cX7_isGood 276 = .ok (.iconst 0, 1) := by decide +kernel
theorem dX7_isGood_277 : decode cX7_isGood 277 = .ok (.ireturn, 1) := by decide +kernel
theorem dX7_isGood_278 : decode cX7_isGood 278 = .ok (.aload_n 0, 1) := by decide +kernel
theorem dX7_isGood_279 : decode cX7_isGood 279 = .ok (.getfield 32, 3) := by decide +kernel
theorem dX7_isGood_282 : decode cX7_isGood 282 = .ok (.bipush 32, 2) := by decide +kernel
theorem dX7_isGood_284 : decode cX7_isGood 284 = .ok (.iconst 4, 1) := by decide +kernel
theorem dX7_isGood_285 : decode cX7_isGood 285 = .ok (.iload_n 2, 1) := by decide +kernel
theorem dX7_isGood_286 : decode cX7_isGood 286 = .ok (.imul, 1) := by decide +kernel
theorem dX7_isGood_287 : decode cX7_isGood 287 = .ok (.iadd, 1) := by decide +kernel
theorem dX7_isGood_288 : decode cX7_isGood 288 = .ok (.iload_n 3, 1) := by decide +kernel
theorem dX7_isGood_289 : decode cX7_isGood 289 = .ok (.iadd, 1) := by decide +kernel
theorem dX7_isGood_290 : decode cX7_isGood 290 = .ok (.iload 4, 2) := by decide +kernel
theorem dX7_isGood_292 : decode cX7_isGood 292 = .ok (.iastore, 1) := by decide +kernel
theorem dX7_isGood_293 : decode cX7_isGood 293 = .ok (.iconst 1, 1) := by decide +kernel
theorem dX7_isGood_294 : decode cX7_isGood 294 = .ok (.ireturn, 1) := by decide +kernel
theorem dX7_isGood_295 : decode cX7_isGood 295 = .ok (.aload_n 0, 1) := by decide +kernel
theorem dX7_isGood_296 : decode cX7_isGood 296 = .ok (.getfield 13, 3) := by decide +kernel
theorem dX7_isGood_299 : decode cX7_isGood 299 = .ok (.bipush 6, 2) := by decide +kernel
theorem dX7_isGood_301 : decode cX7_isGood 301 = .ok (.iload_n 2, 1) := by decide +kernel
theorem dX7_isGood_302 : decode cX7_isGood 302 = .ok (.iastore, 1) := by decide +kernel
theorem dX7_isGood_303 : decode cX7_isGood 303 = .ok (.aload_n 0, 1) := by decide +kernel
theorem dX7_isGood_304 : decode cX7_isGood 304 = .ok (.getfield 13, 3) := by decide +kernel
theorem dX7_isGood_307 : decode cX7_isGood 307 = .ok (.bipush 7, 2) := by decide +kernel
theorem dX7_isGood_309 : decode cX7_isGood 309 = .ok (.iload_n 3, 1) := by decide +kernel
theorem dX7_isGood_310 : decode cX7_isGood 310 = .ok (.iastore, 1) := by decide +kernel
theorem dX7_isGood_311 : decode cX7_isGood 311 = .ok (.iload_n 2, 1) := by decide +kernel
theorem dX7_isGood_312 : decode cX7_isGood 312 = .ok (.bipush 11, 2) := by decide +kernel
theorem dX7_isGood_314 : decode cX7_isGood 314 = .ok (.if_icmp .ge 13, 3) := by decide +kernel
theorem dX7_isGood_317 : decode cX7_isGood 317 = .ok (.iload_n 3, 1) := by decide +kernel
theorem dX7_isGood_318 : decode cX7_isGood 318 = .ok (.bipush 10, 2) := by decide +kernel
theorem dX7_isGood_320 : decode cX7_isGood 320 = .ok (.if_icmp .ge 7, 3) := by decide +kernel
theorem dX7_isGood_323 : decode cX7_isGood 323 = .ok (.iconst 1, 1) := by decide +kernel
theorem dX7_isGood_324 : decode cX7_isGood 324 = .ok (.goto 4, 3) := by decide +kernel
theorem dX7_isGood_327 : decode cX7_isGood 327 = .ok (.iconst 0, 1) := by decide +kernel
theorem dX7_isGood_328 : decode cX7_isGood 328 = .ok (.ireturn, 1) := by decide +kernel
theorem dX7_isGood_329 : decode cX7_isGood 329 = .ok (.aload_n 0, 1) := by decide +kernel
theorem dX7_isGood_330 : decode cX7_isGood 330 = .ok (.getfield 13, 3) := by decide +kernel
theorem dX7_isGood_333 : decode cX7_isGood 333 = .ok (.bipush 8, 2) := by decide +kernel
theorem dX7_isGood_335 : decode cX7_isGood 335 = .ok (.iload_n 2, 1) := by decide +kernel
theorem dX7_isGood_336 : decode cX7_isGood 336 = .ok (.iastore, 1) := by decide +kernel
theorem dX7_isGood_337 : decode cX7_isGood 337 = .ok (.iload_n 2, 1) := by decide +kernel
theorem dX7_isGood_338 : decode cX7_isGood 338 = .ok (.bipush 10, 2) := by decide +kernel
theorem dX7_isGood_340 : decode cX7_isGood 340 = .ok (.if_icmp .ge 7, 3) := by decide +kernel
theorem dX7_isGood_343 : decode cX7_isGood 343 = .ok (.iconst 1, 1) := by decide +kernel
theorem dX7_isGood_344 : decode cX7_isGood 344 = .ok (.goto 4, 3) := by decide +kernel
theorem dX7_isGood_347 : decode cX7_isGood 347 = .ok (.iconst 0, 1) := by decide +kernel
theorem dX7_isGood_348 : decode cX7_isGood 348 = .ok (.ireturn, 1) := by decide +kernel
theorem dX7_isGood_349 : decode cX7_isGood 349 = .ok (.aload_n 0, 1) := by decide +kernel
theorem dX7_isGood_350 : decode cX7_isGood 350 = .ok (.getfield 13, 3) := by decide +kernel
theorem dX7_isGood_353 : decode cX7_isGood 353 = .ok (.bipush 9, 2) := by decide +kernel
theorem dX7_isGood_355 : decode cX7_isGood 355 = .ok (.iload_n 2, 1) := by decide +kernel
theorem dX7_isGood_356 : decode cX7_isGood 356 = .ok (.iastore, 1) := by decide +kernel
theorem dX7_isGood_357 : decode cX7_isGood 357 = .ok (.iload_n 2, 1) := by decide +kernel
theorem dX7_isGood_358 : decode cX7_isGood 358 = .ok (.i2l, 1) := by decide +kernel
theorem dX7_isGood_359 : decode cX7_isGood 359 = .ok (.lconst 1, 1) := by decide +kernel
theorem dX7_isGood_360 : decode cX7_isGood 360 = .ok (.ldc2_w 101, 3) := by decide +kernel
theorem dX7_isGood_363 : decode cX7_isGood 363 = .ok (.invokestatic 61, 3) := by decide +kernel
theorem dX7_isGood_366 : decode cX7_isGood 366 = .ok (.ireturn, 1) := by decide +kernel
theorem dX7_isGood_367 : decode cX7_isGood 367 = .ok (.iload_n 2, 1) := by decide +kernel
theorem dX7_isGood_368 : decode cX7_isGood 368 = .ok (.aload_n 0, 1) := by decide +kernel
theorem dX7_isGood_369 : decode cX7_isGood 369 = .ok (.getfield 17, 3) := by decide +kernel
theorem dX7_isGood_372 : decode cX7_isGood 372 = .ok (.iconst 1, 1) := by decide +kernel
theorem dX7_isGood_373 : decode cX7_isGood 373 = .ok (.iaload, 1) := by decide +kernel
theorem dX7_isGood_374 : decode cX7_isGood 374 = .ok (.if_icmp .ge 9, 3) := by decide +kernel
theorem dX7_isGood_377 : decode cX7_isGood 377 = .ok (.iload_n 3, 1) := by decide +kernel
theorem dX7_isGood_378 : decode cX7_isGood 378 = .ok (.bipush 20, 2) := by decide +kernel
theorem dX7_isGood_380 : decode cX7_isGood 380 = .ok (.if_icmp .le 5, 3) := by decide +kernel
theorem dX7_isGood_383 : decode cX7_isGood 383 = .ok (.iconst 0, 1) := by decide +kernel
theorem dX7_isGood_384 : decode cX7_isGood 384 = .ok (.ireturn, 1) := by decide +kernel
theorem dX7_isGood_385 : decode cX7_isGood 385 = .ok (.aload_n 0, 1) := by decide +kernel
theorem dX7_isGood_386 : decode cX7_isGood 386 = .ok (.getfield 23, 3) := by decide +kernel
theorem dX7_isGood_389 : decode cX7_isGood 389 = .ok (.bipush 8, 2) := by decide +kernel
theorem dX7_isGood_391 : decode cX7_isGood 391 = .ok (.iload_n 2, 1) := by decide +kernel
theorem dX7_isGood_392 : decode cX7_isGood 392 = .ok (.iadd, 1) := by decide +kernel
theorem dX7_isGood_393 : decode cX7_isGood 393 = .ok (.iload_n 3, 1) := by decide +kernel
theorem dX7_isGood_394 : decode cX7_isGood 394 = .ok (.iastore, 1) := by decide +kernel
theorem dX7_isGood_395 : decode cX7_isGood 395 = .ok (.iconst 1, 1) := by decide +kernel
theorem dX7_isGood_396 : decode cX7_isGood 396 = .ok (.ireturn, 1) := by decide +kernel
theorem dX7_isDoorPut_0 : decode cX7_isDoorPut 0 = .ok (.iconst 0, 1) := by decide +kernel
theorem dX7_isDoorPut_1 : decode cX7_isDoorPut 1 = .ok (.istore_n 1, 1) := by decide +kernel
theorem dX7_isDoorPut_2 : decode cX7_isDoorPut 2 = .ok (.iload_n 1, 1) := by decide +kernel
theorem dX7_isDoorPut_3 : decode cX7_isDoorPut 3 = .ok (.iconst 3, 1) := by decide +kernel
theorem dX7_isDoorPut_4 : decode cX7_isDoorPut 4 = .ok (.if_icmp .ge 33, 3) := by decide +kernel
theorem dX7_isDoorPut_7 : decode cX7_isDoorPut 7 = .ok (.aload_n 0, 1) := by decide +kernel
theorem dX7_isDoorPut_8 : decode cX7_isDoorPut 8 = .ok (.getfield 20, 3) := by decide +kernel
theorem dX7_isDoorPut_11 : decode cX7_isDoorPut 11 = .ok (.bipush 24, 2) := by decide +kernel
theorem dX7_isDoorPut_13 : decode cX7_isDoorPut 13 = .ok (.iconst 3, 1) := by decide +kernel
theorem dX7_isDoorPut_14 : decode cX7_isDoorPut 14 = .ok (.aload_n 0, 1) := by decide +kernel
theorem dX7_isDoorPut_15 : decode cX7_isDoorPut 15 = .ok (.getfield 17, 3) := by decide +kernel
theorem dX7_isDoorPut_18 : decode cX7_isDoorPut 18 = .ok (.iconst 1, 1) := by decide +kernel
theorem dX7_isDoorPut_19 : decode cX7_isDoorPut 19 = .ok (.iaload, 1) := by decide +kernel
theorem dX7_isDoorPut_20 : decode cX7_isDoorPut 20 = .ok (.imul, 1) := by decide +kernel
theorem dX7_isDoorPut_21 : decode cX7_isDoorPut 21 = .ok (.iadd, 1) := by decide +kernel
theorem dX7_isDoorPut_22 : decode cX7_isDoorPut 22 = .ok (.iload_n 1, 1) := by decide +kernel
theorem dX7_isDoorPut_23 : decode cX7_isDoorPut 23 = .ok (.iadd, 1) := by decide +kernel
theorem dX7_isDoorPut_24 : decode cX7_isDoorPut 24 = .ok (.aload_n 0, 1) := by decide +kernel
theorem dX7_isDoorPut_25 : decode cX7_isDoorPut 25 = .ok (.getfield 50, 3) := by decide +kernel
theorem dX7_isDoorPut_28 : decode cX7_isDoorPut 28 = .ok (.iload_n 1, 1) := by decide +kernel
theorem dX7_isDoorPut_29 : decode cX7_isDoorPut 29 = .ok (.iaload, 1) := by decide +kernel
theorem dX7_isDoorPut_30 : decode cX7_isDoorPut 30 = .ok (.iastore, 1) := by decide +kernel
theorem dX7_isDoorPut_31 : decode cX7_isDoorPut 31 = .ok (.iinc 1 1, 3) := by decide +kernel
theorem dX7_isDoorPut_34 : decode cX7_isDoorPut 34 = .ok (.goto (-32), 3) := by decide +kernel
theorem dX7_isDoorPut_37 : decode cX7_isDoorPut 37 = .ok (.aload_n 0, 1) := by decide +kernel
theorem dX7_isDoorPut_38 : decode cX7_isDoorPut 38 = .ok (.getfield 17, 3) := by decide +kernel
theorem dX7_isDoorPut_41 : decode cX7_isDoorPut 41 = .ok (.iconst 1, 1) := by decide +kernel
theorem dX7_isDoorPut_42 : decode cX7_isDoorPut 42 = .ok (.dup2, 1) := by decide +kernel
theorem dX7_isDoorPut_43 : decode cX7_isDoorPut 43 = .ok (.iaload, 1) := by decide +kernel
theorem dX7_isDoorPut_44 : decode cX7_isDoorPut 44 = .ok (.iconst 1, 1) := by decide +kernel
theorem dX7_isDoorPut_45 : decode cX7_isDoorPut 45 = .ok (.iadd, 1) := by decide +kernel
theorem dX7_isDoorPut_46 : decode cX7_isDoorPut 46 = .ok (.iastore, 1) := by decide +kernel
theorem dX7_isDoorPut_47 : decode cX7_isDoorPut 47 = .ok (.iconst 1, 1) := by decide +kernel
theorem dX7_isDoorPut_48 : decode cX7_isDoorPut 48 = .ok (.ireturn, 1) := by decide +kernel
theorem dX7_isLodgerPut_0 : decode cX7_isLodgerPut 0 = .ok (.iconst 0, 1) := by decide +kernel
theorem dX7_isLodgerPut_1 : decode cX7_isLodgerPut 1 = .ok (.istore_n 1, 1) := by decide +kernel
theorem dX7_isLodgerPut_2 : decode cX7_isLodgerPut 2 = .ok (.iload_n 1, 1) := by decide +kernel
theorem dX7_isLodgerPut_3 : decode cX7_isLodgerPut 3 = .ok (.iconst 3, 1) := by decide +kernel
theorem dX7_isLodgerPut_4 : decode cX7_isLodgerPut 4 = .ok (.if_icmp .ge 33, 3) := by decide +kernel
theorem dX7_isLodgerPut_7 : decode cX7_isLodgerPut 7 = .ok (.aload_n 0, 1) := by decide +kernel
theorem dX7_isLodgerPut_8 : decode cX7_isLodgerPut 8 = .ok (.getfield 29, 3) := by decide +kernel
theorem dX7_isLodgerPut_11 : decode cX7_isLodgerPut 11 = .ok (.bipush 12, 2) := by decide +kernel
theorem dX7_isLodgerPut_13 : decode cX7_isLodgerPut 13 = .ok (.iconst 3, 1) := by decide +kernel
theorem dX7_isLodgerPut_14 : decode cX7_isLodgerPut 14 = .ok (.aload_n 0, 1) := by decide +kernel
theorem dX7_isLodgerPut_15 : decode cX7_isLodgerPut 15 = .ok (.getfield 26, 3) := by decide +kernel
theorem dX7_isLodgerPut_18 : decode cX7_isLodgerPut 18 = .ok (.iconst 1, 1) := by decide +kernel
theorem dX7_isLodgerPut_19 : decode cX7_isLodgerPut 19 = .ok (.iaload, 1) := by decide +kernel
theorem dX7_isLodgerPut_20 : decode cX7_isLodgerPut 20 = .ok (.imul, 1) := by decide +kernel
theorem dX7_isLodgerPut_21 : decode cX7_isLodgerPut 21 = .ok (.iadd, 1) := by decide +kernel
theorem dX7_isLodgerPut_22 : decode cX7_isLodgerPut 22 = .ok (.iload_n 1, 1) := by decide +kernel
theorem dX7_isLodgerPut_23 : decode cX7_isLodgerPut 23 = .ok (.iadd, 1) := by decide +kernel
theorem dX7_isLodgerPut_24 : decode cX7_isLodgerPut 24 = .ok (.aload_n 0, 1) := by decide +kernel
theorem dX7_isLodgerPut_25 : decode cX7_isLodgerPut 25 = .ok (.getfield 50, 3) := by decide +kernel
theorem dX7_isLodgerPut_28 : decode cX7_isLodgerPut 28 = .ok (.iload_n 1, 1) := by decide +kernel
theorem dX7_isLodgerPut_29 : decode cX7_isLodgerPut 29 = .ok (.iaload, 1) := by decide +kernel
theorem dX7_isLodgerPut_30 : decode cX7_isLodgerPut 30 = .ok (.iastore, 1) := by decide +kernel
theorem dX7_isLodgerPut_31 : decode cX7_isLodgerPut 31 = .ok (.iinc 1 1, 3) := by decide +kernel
theorem dX7_isLodgerPut_34 : decode cX7_isLodgerPut 34 = .ok (.goto (-32), 3) := by decide +kernel
theorem dX7_isLodgerPut_37 : decode cX7_isLodgerPut 37 = .ok (.aload_n 0, 1) := by decide +kernel
theorem dX7_isLodgerPut_38 : decode cX7_isLodgerPut 38 = .ok (.getfield 26, 3) := by decide +kernel
theorem dX7_isLodgerPut_41 : decode cX7_isLodgerPut 41 = .ok (.iconst 1, 1) := by decide +kernel
theorem dX7_isLodgerPut_42 : decode cX7_isLodgerPut 42 = .ok (.dup2, 1) := by decide +kernel
theorem dX7_isLodgerPut_43 : decode cX7_isLodgerPut 43 = .ok (.iaload, 1) := by decide +kernel
theorem dX7_isLodgerPut_44 : decode cX7_isLodgerPut 44 = .ok (.iconst 1, 1) := by decide +kernel
theorem dX7_isLodgerPut_45 : decode cX7_isLodgerPut 45 = .ok (.iadd, 1) := by decide +kernel
theorem dX7_isLodgerPut_46 : decode cX7_isLodgerPut 46 = .ok (.iastore, 1) := by decide +kernel
theorem dX7_isLodgerPut_47 : decode cX7_isLodgerPut 47 = .ok (.iconst 1, 1) := by decide +kernel
theorem dX7_isLodgerPut_48 : decode cX7_isLodgerPut 48 = .ok (.ireturn, 1) := by decide +kernel
theorem dX7_begins_0 : decode cX7_begins 0 = .ok (.aload_n 0, 1) := by decide +kernel
theorem dX7_begins_1 : decode cX7_begins 1 = .ok (.getfield 13, 3) := by decide +kernel
theorem dX7_begins_4 : decode cX7_begins 4 = .ok (.iconst 5, 1) := by decide +kernel
theorem dX7_begins_5 : decode cX7_begins 5 = .ok (.iconst 3, 1) := by decide +kernel
theorem dX7_begins_6 : decode cX7_begins 6 = .ok (.iastore, 1) := by decide +kernel
theorem dX7_begins_7 : decode cX7_begins 7 = .ok (.aload_n 0, 1) := by decide +kernel
theorem dX7_begins_8 : decode cX7_begins 8 = .ok (.getfield 13, 3) := by decide +kernel
theorem dX7_begins_11 : decode cX7_begins 11 = .ok (.bipush 6, 2) := by decide +kernel
theorem dX7_begins_13 : decode cX7_begins 13 = .ok (.iconst 3, 1) := by decide +kernel
theorem dX7_begins_14 : decode cX7_begins 14 = .ok (.iastore, 1) := by decide +kernel
theorem dX7_begins_15 : decode cX7_begins 15 = .ok (.aload_n 0, 1) := by decide +kernel
theorem dX7_begins_16 : decode cX7_begins 16 = .ok (.getfield 13, 3) := by decide +kernel
theorem dX7_begins_19 : decode cX7_begins 19 = .ok (.bipush 7, 2) := by decide +kernel
theorem dX7_begins_21 : decode cX7_begins 21 = .ok (.iconst 1, 1) := by decide +kernel
theorem dX7_begins_22 : decode cX7_begins 22 = .ok (.iastore, 1) := by decide +kernel
theorem dX7_begins_23 : decode cX7_begins 23 = .ok (.aload_n 0, 1) := by decide +kernel
theorem dX7_begins_24 : decode cX7_begins 24 = .ok (.getfield 13, 3) := by decide +kernel
theorem dX7_begins_27 : decode cX7_begins 27 = .ok (.bipush 8, 2) := by decide +kernel
theorem dX7_begins_29 : decode cX7_begins 29 = .ok (.iconst 1, 1) := by decide +kernel
theorem dX7_begins_30 : decode cX7_begins 30 = .ok (.iastore, 1) := by decide +kernel
theorem dX7_begins_31 : decode cX7_begins 31 = .ok (.aload_n 0, 1) := by decide +kernel
theorem dX7_begins_32 : decode cX7_begins 32 = .ok (.getfield 13, 3) := by decide +kernel
theorem dX7_begins_35 : decode cX7_begins 35 = .ok (.bipush 9, 2) := by decide +kernel
theorem dX7_begins_37 : decode cX7_begins 37 = .ok (.iconst 2, 1) := by decide +kernel
theorem dX7_begins_38 : decode cX7_begins 38 = .ok (.iastore, 1) := by decide +kernel
theorem dX7_begins_39 : decode cX7_begins 39 = .ok (.aload_n 0, 1) := by decide +kernel
theorem dX7_begins_40 : decode cX7_begins 40 = .ok (.getfield 17, 3) := by decide +kernel
theorem dX7_begins_43 : decode cX7_begins 43 = .ok (.iconst 1, 1) := by decide +kernel
theorem dX7_begins_44 : decode cX7_begins 44 = .ok (.iconst 0, 1) := by decide +kernel
theorem dX7_begins_45 : decode cX7_begins 45 = .ok (.iastore, 1) := by decide +kernel
theorem dX7_begins_46 : decode cX7_begins 46 = .ok (.aload_n 0, 1) := by decide +kernel
theorem dX7_begins_47 : decode cX7_begins 47 = .ok (.getfield 26, 3) := by decide +kernel
theorem dX7_begins_50 : decode cX7_begins 50 = .ok (.iconst 1, 1) := by decide +kernel
theorem dX7_begins_51 : decode cX7_begins 51 = .ok (.iconst 0, 1) := by decide +kernel
theorem dX7_begins_52 : decode cX7_begins 52 = .ok (.iastore, 1) := by decide +kernel
theorem dX7_begins_53 : decode cX7_begins 53 = .ok (.iconst 0, 1) := by decide +kernel
theorem dX7_begins_54 : decode cX7_begins 54 = .ok (.istore_n 1, 1) := by decide +kernel
theorem dX7_begins_55 : decode cX7_begins 55 = .ok (.iload_n 1, 1) := by decide +kernel
theorem dX7_begins_56 : decode cX7_begins 56 = .ok (.bipush 32, 2) := by decide +kernel
theorem dX7_begins_58 : decode cX7_begins 58 = .ok (.if_icmp .ge 35, 3) := by decide +kernel
theorem dX7_begins_61 : decode cX7_begins 61 = .ok (.aload_n 0, 1) := by decide +kernel
theorem dX7_begins_62 : decode cX7_begins 62 = .ok (.getfield 32, 3) := by decide +kernel
theorem dX7_begins_65 : decode cX7_begins 65 = .ok (.bipush 32, 2) := by decide +kernel
theorem dX7_begins_67 : decode cX7_begins 67 = .ok (.iload_n 1, 1) := by decide +kernel
theorem dX7_begins_68 : decode cX7_begins 68 = .ok (.iadd, 1) := by decide +kernel
theorem dX7_begins_69 : decode cX7_begins 69 = .ok (.iconst 0, 1) := by decide +kernel
theorem dX7_begins_70 : decode cX7_begins 70 = .ok (.iastore, 1) := by decide +kernel
theorem dX7_begins_71 : decode cX7_begins 71 = .ok (.iload_n 1, 1) := by decide +kernel
theorem dX7_begins_72 : decode cX7_begins 72 = .ok (.bipush 8, 2) := by decide +kernel
theorem dX7_begins_74 : decode cX7_begins 74 = .ok (.if_icmp .ge 13, 3) := by decide +kernel
theorem dX7_begins_77 : decode cX7_begins 77 = .ok (.aload_n 0, 1) := by decide +kernel
theorem dX7_begins_78 : decode cX7_begins 78 = .ok (.getfield 23, 3) := by decide +kernel
theorem dX7_begins_81 : decode cX7_begins 81 = .ok (.bipush 8, 2) := by decide +kernel
theorem dX7_begins_83 : decode cX7_begins 83 = .ok (.iload_n 1, 1) := by decide +kernel
theorem dX7_begins_84 : decode cX7_begins 84 = .ok (.iadd, 1) := by decide +kernel
theorem dX7_begins_85 : decode cX7_begins 85 = .ok (.iconst 0, 1) := by decide +kernel
theorem dX7_begins_86 : decode cX7_begins 86 = .ok (.iastore, 1) := by decide +kernel
theorem dX7_begins_87 : decode cX7_begins 87 = .ok (.iinc 1 1, 3) := by decide +kernel
theorem dX7_begins_90 : decode cX7_begins 90 = .ok (.goto (-35), 3) := by decide +kernel
theorem dX7_begins_93 : decode cX7_begins 93 = .ok (.return_, 1) := by decide +kernel
theorem dX7_takes_0 : decode cX7_takes 0 = .ok (.aload_n 0, 1) := by decide +kernel
theorem dX7_takes_1 : decode cX7_takes 1 = .ok (.getfield 17, 3) := by decide +kernel
theorem dX7_takes_4 : decode cX7_takes 4 = .ok (.iconst 0, 1) := by decide +kernel
theorem dX7_takes_5 : decode cX7_takes 5 = .ok (.aload_n 0, 1) := by decide +kernel
theorem dX7_takes_6 : decode cX7_takes 6 = .ok (.getfield 17, 3) := by decide +kernel
theorem dX7_takes_9 : decode cX7_takes 9 = .ok (.iconst 1, 1) := by decide +kernel
theorem dX7_takes_10 : decode cX7_takes 10 = .ok (.iaload, 1) := by decide +kernel
theorem dX7_takes_11 : decode cX7_takes 11 = .ok (.iastore, 1) := by decide +kernel
theorem dX7_takes_12 : decode cX7_takes 12 = .ok (.aload_n 0, 1) := by decide +kernel
theorem dX7_takes_13 : decode cX7_takes 13 = .ok (.getfield 26, 3) := by decide +kernel
theorem dX7_takes_16 : decode cX7_takes 16 = .ok (.iconst 0, 1) := by decide +kernel
theorem dX7_takes_17 : decode cX7_takes 17 = .ok (.aload_n 0, 1) := by decide +kernel
theorem dX7_takes_18 : decode cX7_takes 18 = .ok (.getfield 26, 3) := by decide +kernel
theorem dX7_takes_21 : decode cX7_takes 21 = .ok (.iconst 1, 1) := by decide +kernel
theorem dX7_takes_22 : decode cX7_takes 22 = .ok (.iaload, 1) := by decide +kernel
theorem dX7_takes_23 : decode cX7_takes 23 = .ok (.iastore, 1) := by decide +kernel
theorem dX7_takes_24 : decode cX7_takes 24 = .ok (.iconst 0, 1) := by decide +kernel
theorem dX7_takes_25 : decode cX7_takes 25 = .ok (.istore_n 1, 1) := by decide +kernel
theorem dX7_takes_26 : decode cX7_takes 26 = .ok (.iload_n 1, 1) := by decide +kernel
theorem dX7_takes_27 : decode cX7_takes 27 = .ok (.bipush 32, 2) := by decide +kernel
theorem dX7_takes_29 : decode cX7_takes 29 = .ok (.if_icmp .ge 106, 3) := by decide +kernel
theorem dX7_takes_32 : decode cX7_takes 32 = .ok (.aload_n 0, 1) := by decide +kernel
theorem dX7_takes_33 : decode cX7_takes 33 = .ok (.getfield 32, 3) := by decide +kernel
theorem dX7_takes_36 : decode cX7_takes 36 = .ok (.iload_n 1, 1) := by decide +kernel
theorem dX7_takes_37 : decode cX7_takes 37 = .ok (.aload_n 0, 1) := by decide +kernel
theorem dX7_takes_38 : decode cX7_takes 38 = .ok (.getfield 32, 3) := by decide +kernel
theorem dX7_takes_41 : decode cX7_takes 41 = .ok (.bipush 32, 2) := by decide +kernel
theorem dX7_takes_43 : decode cX7_takes 43 = .ok (.iload_n 1, 1) := by decide +kernel
theorem dX7_takes_44 : decode cX7_takes 44 = .ok (.iadd, 1) := by decide +kernel
theorem dX7_takes_45 : decode cX7_takes 45 = .ok (.iaload, 1) := by decide +kernel
theorem dX7_takes_46 : decode cX7_takes 46 = .ok (.iastore, 1) := by decide +kernel
theorem dX7_takes_47 : decode cX7_takes 47 = .ok (.iload_n 1, 1) := by decide +kernel
theorem dX7_takes_48 : decode cX7_takes 48 = .ok (.bipush 24, 2) := by decide +kernel
theorem dX7_takes_50 : decode cX7_takes 50 = .ok (.if_icmp .ge 18, 3) := by decide +kernel
theorem dX7_takes_53 : decode cX7_takes 53 = .ok (.aload_n 0, 1) := by decide +kernel
theorem dX7_takes_54 : decode cX7_takes 54 = .ok (.getfield 20, 3) := by decide +kernel
theorem dX7_takes_57 : decode cX7_takes 57 = .ok (.iload_n 1, 1) := by decide +kernel
theorem dX7_takes_58 : decode cX7_takes 58 = .ok (.aload_n 0, 1) := by decide +kernel
theorem dX7_takes_59 : decode cX7_takes 59 = .ok (.getfield 20, 3) := by decide +kernel
theorem dX7_takes_62 : decode cX7_takes 62 = .ok (.bipush 24, 2) := by decide +kernel
theorem dX7_takes_64 : decode cX7_takes 64 = .ok (.iload_n 1, 1) := by decide +kernel
theorem dX7_takes_65 : decode cX7_takes 65 = .ok (.iadd, 1) := by decide +kernel
theorem dX7_takes_66 : decode cX7_takes 66 = .ok (.iaload, 1) := by decide +kernel
theorem dX7_takes_67 : decode cX7_takes 67 = .ok (.iastore, 1) := by decide +kernel
theorem dX7_takes_68 : decode cX7_takes 68 = .ok (.iload_n 1, 1) := by decide +kernel
theorem dX7_takes_69 : decode cX7_takes 69 = .ok (.bipush 12, 2) := by decide +kernel
theorem dX7_takes_71 : decode cX7_takes 71 = .ok (.if_icmp .ge 18, 3) := by decide +kernel
theorem dX7_takes_74 : decode cX7_takes 74 = .ok (.aload_n 0, 1) := by decide +kernel
theorem dX7_takes_75 : decode cX7_takes 75 = .ok (.getfield 29, 3) := by decide +kernel
theorem dX7_takes_78 : decode cX7_takes 78 = .ok (.iload_n 1, 1) := by decide +kernel
theorem dX7_takes_79 : decode cX7_takes 79 = .ok (.aload_n 0, 1) := by decide +kernel
theorem dX7_takes_80 : decode cX7_takes 80 = .ok (.getfield 29, 3) := by decide +kernel
theorem dX7_takes_83 : decode cX7_takes 83 = .ok (.bipush 12, 2) := by decide +kernel
theorem dX7_takes_85 : decode cX7_takes 85 = .ok (.iload_n 1, 1) := by decide +kernel
theorem dX7_takes_86 : decode cX7_takes 86 = .ok (.iadd, 1) := by decide +kernel
theorem dX7_takes_87 : decode cX7_takes 87 = .ok (.iaload, 1) := by decide +kernel
theorem dX7_takes_88 : decode cX7_takes 88 = .ok (.iastore, 1) := by decide +kernel
theorem dX7_takes_89 : decode cX7_takes 89 = .ok (.iload_n 1, 1) := by decide +kernel
theorem dX7_takes_90 : decode cX7_takes 90 = .ok (.bipush 8, 2) := by decide +kernel
theorem dX7_takes_92 : decode cX7_takes 92 = .ok (.if_icmp .ge 18, 3) := by decide +kernel
theorem dX7_takes_95 : decode cX7_takes 95 = .ok (.aload_n 0, 1) := by decide +kernel
theorem dX7_takes_96 : decode cX7_takes 96 = .ok (.getfield 23, 3) := by decide +kernel
theorem dX7_takes_99 : decode cX7_takes 99 = .ok (.iload_n 1, 1) := by decide +kernel
theorem dX7_takes_100 : decode cX7_takes 100 = .ok (.aload_n 0, 1) := by decide +kernel
theorem dX7_takes_101 : decode cX7_takes 101 = .ok (.getfield 23, 3) := by decide +kernel
theorem dX7_takes_104 : decode cX7_takes 104 = .ok (.bipush 8, 2) := by decide +kernel
theorem dX7_takes_106 : decode cX7_takes 106 = .ok (.iload_n 1, 1) := by decide +kernel
theorem dX7_takes_107 : decode cX7_takes 107 = .ok (.iadd, 1) := by decide +kernel
theorem dX7_takes_108 : decode cX7_takes 108 = .ok (.iaload, 1) := by decide +kernel
theorem dX7_takes_109 : decode cX7_takes 109 = .ok (.iastore, 1) := by decide +kernel
theorem dX7_takes_110 : decode cX7_takes 110 = .ok (.iload_n 1, 1) := by decide +kernel
theorem dX7_takes_111 : decode cX7_takes 111 = .ok (.iconst 5, 1) := by decide +kernel
theorem dX7_takes_112 : decode cX7_takes 112 = .ok (.if_icmp .ge 17, 3) := by decide +kernel
theorem dX7_takes_115 : decode cX7_takes 115 = .ok (.aload_n 0, 1) := by decide +kernel
theorem dX7_takes_116 : decode cX7_takes 116 = .ok (.getfield 13, 3) := by decide +kernel
theorem dX7_takes_119 : decode cX7_takes 119 = .ok (.iload_n 1, 1) := by decide +kernel
theorem dX7_takes_120 : decode cX7_takes 120 = .ok (.aload_n 0, 1) := by decide +kernel
theorem dX7_takes_121 : decode cX7_takes 121 = .ok (.getfield 13, 3) := by decide +kernel
theorem dX7_takes_124 : decode cX7_takes 124 = .ok (.iconst 5, 1) := by decide +kernel
theorem dX7_takes_125 : decode cX7_takes 125 = .ok (.iload_n 1, 1) := by decide +kernel
theorem dX7_takes_126 : decode cX7_takes 126 = .ok (.iadd, 1) := by decide +kernel
theorem dX7_takes_127 : decode cX7_takes 127 = .ok (.iaload, 1) := by decide +kernel
theorem dX7_takes_128 : decode cX7_takes 128 = .ok (.iastore, 1) := by decide +kernel
theorem dX7_takes_129 : decode cX7_takes 129 = .ok (.iinc 1 1, 3) := by decide +kernel
theorem dX7_takes_132 : decode cX7_takes 132 = .ok (.goto (-106), 3) := by decide +kernel
theorem dX7_takes_135 : decode cX7_takes 135 = .ok (.iconst 0, 1) := by decide +kernel
theorem dX7_takes_136 : decode cX7_takes 136 = .ok (.istore_n 1, 1) := by decide +kernel
theorem dX7_takes_137 : decode cX7_takes 137 = .ok (.iload_n 1, 1) := by decide +kernel
theorem dX7_takes_138 : decode cX7_takes 138 = .ok (.bipush 46, 2) := by decide +kernel
theorem dX7_takes_140 : decode cX7_takes 140 = .ok (.if_icmp .ge 31, 3) := by decide +kernel
theorem dX7_takes_143 : decode cX7_takes 143 = .ok (.aload_n 0, 1) := by decide +kernel
theorem dX7_takes_144 : decode cX7_takes 144 = .ok (.getfield 35, 3) := by decide +kernel
theorem dX7_takes_147 : decode cX7_takes 147 = .ok (.iload_n 1, 1) := by decide +kernel
theorem dX7_takes_148 : decode cX7_takes 148 = .ok (.iload_n 1, 1) := by decide +kernel
theorem dX7_takes_149 : decode cX7_takes 149 = .ok (.bipush 32, 2) := by decide +kernel
theorem dX7_takes_151 : decode cX7_takes 151 = .ok (.if_icmp .ge 12, 3) := by decide +kernel
theorem dX7_takes_154 : decode cX7_takes 154 = .ok (.aload_n 0, 1) := by decide +kernel
theorem dX7_takes_155 : decode cX7_takes 155 = .ok (.getfield 32, 3) := by decide +kernel
theorem dX7_takes_158 : decode cX7_takes 158 = .ok (.iload_n 1, 1) := by decide +kernel
theorem dX7_takes_159 : decode cX7_takes 159 = .ok (.iaload, 1) := by decide +kernel
theorem dX7_takes_160 : decode cX7_takes 160 = .ok (.goto 4, 3) := by decide +kernel
theorem dX7_takes_163 : decode cX7_takes 163 = .ok (.iconst 0, 1) := by decide +kernel
theorem dX7_takes_164 : decode cX7_takes 164 = .ok (.iastore, 1) := by decide +kernel
theorem dX7_takes_165 : decode cX7_takes 165 = .ok (.iinc 1 1, 3) := by decide +kernel
theorem dX7_takes_168 : decode cX7_takes 168 = .ok (.goto (-31), 3) := by decide +kernel
theorem dX7_takes_171 : decode cX7_takes 171 = .ok (.iconst 0, 1) := by decide +kernel
theorem dX7_takes_172 : decode cX7_takes 172 = .ok (.istore_n 1, 1) := by decide +kernel
theorem dX7_takes_173 : decode cX7_takes 173 = .ok (.iload_n 1, 1) := by decide +kernel
theorem dX7_takes_174 : decode cX7_takes 174 = .ok (.aload_n 0, 1) := by decide +kernel
theorem dX7_takes_175 : decode cX7_takes 175 = .ok (.getfield 26, 3) := by decide +kernel
theorem dX7_takes_178 : decode cX7_takes 178 = .ok (.iconst 0, 1) := by decide +kernel
theorem dX7_takes_179 : decode cX7_takes 179 = .ok (.iaload, 1) := by decide +kernel
theorem dX7_takes_180 : decode cX7_takes 180 = .ok (.if_icmp .ge 26, 3) := by decide +kernel
theorem dX7_takes_183 : decode cX7_takes 183 = .ok (.aload_n 0, 1) := by decide +kernel
theorem dX7_takes_184 : decode cX7_takes 184 = .ok (.getfield 35, 3) := by decide +kernel
theorem dX7_takes_187 : decode cX7_takes 187 = .ok (.bipush 40, 2) := by decide +kernel
theorem dX7_takes_189 : decode cX7_takes 189 = .ok (.iload_n 1, 1) := by decide +kernel
theorem dX7_takes_190 : decode cX7_takes 190 = .ok (.iadd, 1) := by decide +kernel
theorem dX7_takes_191 : decode cX7_takes 191 = .ok (.aload_n 0, 1) := by decide +kernel
theorem dX7_takes_192 : decode cX7_takes 192 = .ok (.getfield 29, 3) := by decide +kernel
theorem dX7_takes_195 : decode cX7_takes 195 = .ok (.iconst 3, 1) := by decide +kernel
theorem dX7_takes_196 : decode cX7_takes 196 = .ok (.iload_n 1, 1) := by decide +kernel
theorem dX7_takes_197 : decode cX7_takes 197 = .ok (.imul, 1) := by decide +kernel
theorem dX7_takes_198 : decode cX7_takes 198 = .ok (.iaload, 1) := by decide +kernel
theorem dX7_takes_199 : decode cX7_takes 199 = .ok (.iastore, 1) := by decide +kernel
theorem dX7_takes_200 : decode cX7_takes 200 = .ok (.iinc 1 1, 3) := by decide +kernel
theorem dX7_takes_203 : decode cX7_takes 203 = .ok (.goto (-30), 3) := by decide +kernel
theorem dX7_takes_206 : decode cX7_takes 206 = .ok (.aload_n 0, 1) := by decide +kernel
theorem dX7_takes_207 : decode cX7_takes 207 = .ok (.iconst 0, 1) := by decide +kernel
theorem dX7_takes_208 : decode cX7_takes 208 = .ok (.putfield 103, 3) := by decide +kernel
theorem dX7_takes_211 : decode cX7_takes 211 = .ok (.aload_n 0, 1) := by decide +kernel
theorem dX7_takes_212 : decode cX7_takes 212 = .ok (.iconst 0, 1) := by decide +kernel
theorem dX7_takes_213 : decode cX7_takes 213 = .ok (.putfield 106, 3) := by decide +kernel
theorem dX7_takes_216 : decode cX7_takes 216 = .ok (.return_, 1) := by decide +kernel
set_option maxRecDepth 20000 in
theorem ggX7_fault_X7_begins : GoodIn wsX7_fault wsX7_begins := goodIn_r _ [7, 8, 9, 10, 11, 12, 49, 50, 51, 52, 53, 54, 55, 56, 57, 58, 59, 60, 61, 62, 63, 64, 65, 66, 67] (by decide +kernel) (by decide +kernel)
set_option maxRecDepth 20000 in
theorem gX7_fault_X7_begins : GoodIn wsX7_fault (wsV RX7 53 RX7 yX7_begins wsX7_begins) := goodIn_app (goodIn_of _ (by decide +kernel)) ggX7_fault_X7_begins
set_option maxRecDepth 20000 in
theorem ggX7_fault_X7_isItem : GoodIn wsX7_fault wsX7_isItem := goodIn_r _ [16, 17, 1, 2, 18, 19, 20, 6, 21, 22, 23, 24, 25, 26, 27, 28, 29, 30, 31, 32, 33, 34, 35, 8, 36, 9, 37, 10, 11, 38, 12, 39, 40, 41, 42, 43, 44, 45, 46, 47, 48, 49, 50, 51, 52, 53, 54, 55, 56, 57, 58, 59, 60, 61, 62, 63, 64, 65, 66, 67] (by decide +kernel) (by decide +kernel)
set_option maxRecDepth 20000 in
theorem gX7_fault_X7_isItem : GoodIn wsX7_fault (wsV RX7 109 RX7 yX7_isItem wsX7_isItem) := goodIn_app (goodIn_of _ (by decide +kernel)) ggX7_fault_X7_isItem
theorem dX7_fault_0 : decode cX7_fault 0 = .ok (.aload_n 0, 1) := by decide +kernel
theorem dX7_fault_1 : decode cX7_fault 1 = .ok (.iconst 0, 1) := by decide +kernel
theorem dX7_fault_2 : decode cX7_fault 2 = .ok (.putfield 69, 3) := by decide +kernel
theorem dX7_fault_5 : decode cX7_fault 5 = .ok (.aload_n 0, 1) := by decide +kernel
theorem dX7_fault_6 : decode cX7_fault 6 = .ok (.invokevirtual 53, 3) := by decide +kernel
theorem dX7_fault_9 : decode cX7_fault 9 = .ok (.aload_n 0, 1) := by decide +kernel
theorem dX7_fault_10 : decode cX7_fault 10 = .ok (.getfield 69, 3) := by decide +kernel
theorem dX7_fault_13 : decode cX7_fault 13 = .ok (.aload_n 0, 1) := by decide +kernel
theorem dX7_fault_14 : decode cX7_fault 14 = .ok (.getfield 65, 3) := by decide +kernel
theorem dX7_fault_17 : decode cX7_fault 17 = .ok (.if_icmp .ge 20, 3) := by decide +kernel
theorem dX7_fault_20 : decode cX7_fault 20 = .ok (.aload_n 0, 1) := by decide +kernel
theorem dX7_fault_21 : decode cX7_fault 21 = .ok (.getfield 69, 3) := by decide +kernel
theorem dX7_fault_24 : decode cX7_fault 24 = .ok (.istore_n 1, 1) := by decide +kernel
theorem dX7_fault_25 : decode cX7_fault 25 = .ok (.aload_n 0, 1) := by decide +kernel
theorem dX7_fault_26 : decode cX7_fault 26 = .ok (.invokevirtual 109, 3) := by decide +kernel
theorem dX7_fault_29 : decode cX7_fault 29 = .ok (.ifCond .ne 5, 3) := by decide +kernel
theorem dX7_fault_32 : decode cX7_fault 32 = .ok (.iload_n 1, 1) := by decide +kernel
theorem dX7_fault_33 : decode cX7_fault 33 = .ok (.ireturn, 1) := by decide +kernel
theorem dX7_fault_34 : decode cX7_fault 34 = .ok (.goto (-25), 3) := by decide +kernel
theorem dX7_fault_37 : decode cX7_fault 37 = .ok (.bipush (-4), 2) := by decide +kernel
theorem dX7_fault_39 : decode cX7_fault 39 = .ok (.ireturn, 1) := by decide +kernel
theorem dX7_isWhole_0 : decode cX7_isWhole 0 = .ok (.aload_n 0, 1) := by decide +kernel
theorem dX7_isWhole_1 : decode cX7_isWhole 1 = .ok (.getfield 17, 3) := by decide +kernel
theorem dX7_isWhole_4 : decode cX7_isWhole 4 = .ok (.iconst 1, 1) := by decide +kernel
theorem dX7_isWhole_5 : decode cX7_isWhole 5 = .ok (.iaload, 1) := by decide +kernel
theorem dX7_isWhole_6 : decode cX7_isWhole 6 = .ok (.ifCond .le 16, 3) := by decide +kernel
theorem dX7_isWhole_9 : decode cX7_isWhole 9 = .ok (.aload_n 0, 1) := by decide +kernel
theorem dX7_isWhole_10 : decode cX7_isWhole 10 = .ok (.getfield 26, 3) := by decide +kernel
theorem dX7_isWhole_13 : decode cX7_isWhole 13 = .ok (.iconst 1, 1) := by decide +kernel
theorem dX7_isWhole_14 : decode cX7_isWhole 14 = .ok (.iaload, 1) := by decide +kernel
theorem dX7_isWhole_15 : decode cX7_isWhole 15 = .ok (.ifCond .le 7, 3) := by decide +kernel
theorem dX7_isWhole_18 : decode cX7_isWhole 18 = .ok (.iconst 1, 1) := by decide +kernel
theorem dX7_isWhole_19 : decode cX7_isWhole 19 = .ok (.goto 4, 3) := by decide +kernel
theorem dX7_isWhole_22 : decode cX7_isWhole 22 = .ok (.iconst 0, 1) := by decide +kernel
theorem dX7_isWhole_23 : decode cX7_isWhole 23 = .ok (.istore_n 1, 1) := by decide +kernel
theorem dX7_isWhole_24 : decode cX7_isWhole 24 = .ok (.iconst 0, 1) := by decide +kernel
theorem dX7_isWhole_25 : decode cX7_isWhole 25 = .ok (.istore_n 2, 1) := by decide +kernel
theorem dX7_isWhole_26 : decode cX7_isWhole 26 = .ok (.iload_n 2, 1) := by decide +kernel
theorem dX7_isWhole_27 : decode cX7_isWhole 27 = .ok (.aload_n 0, 1) := by decide +kernel
theorem dX7_isWhole_28 : decode cX7_isWhole 28 = .ok (.getfield 17, 3) := by decide +kernel
theorem dX7_isWhole_31 : decode cX7_isWhole 31 = .ok (.iconst 1, 1) := by decide +kernel
theorem dX7_isWhole_32 : decode cX7_isWhole 32 = .ok (.iaload, 1) := by decide +kernel
theorem dX7_isWhole_33 : decode cX7_isWhole 33 = .ok (.if_icmp .ge 79, 3) := by decide +kernel
theorem dX7_isWhole_36 : decode cX7_isWhole 36 = .ok (.iload_n 1, 1) := by decide +kernel
theorem dX7_isWhole_37 : decode cX7_isWhole 37 = .ok (.ifCond .eq 67, 3) := by decide +kernel
theorem dX7_isWhole_40 : decode cX7_isWhole 40 = .ok (.aload_n 0, 1) := by decide +kernel
theorem dX7_isWhole_41 : decode cX7_isWhole 41 = .ok (.getfield 20, 3) := by decide +kernel
theorem dX7_isWhole_44 : decode cX7_isWhole 44 = .ok (.bipush 24, 2) := by decide +kernel
theorem dX7_isWhole_46 : decode cX7_isWhole 46 = .ok (.iconst 3, 1) := by decide +kernel
theorem dX7_isWhole_47 : decode cX7_isWhole 47 = .ok (.iload_n 2, 1) := by decide +kernel
theorem dX7_isWhole_48 : decode cX7_isWhole 48 = .ok (.imul, 1) := by decide +kernel
theorem dX7_isWhole_49 : decode cX7_isWhole 49 = .ok (.iadd, 1) := by decide +kernel
theorem dX7_isWhole_50 : decode cX7_isWhole 50 = .ok (.iaload, 1) := by decide +kernel
theorem dX7_isWhole_51 : decode cX7_isWhole 51 = .ok (.aload_n 0, 1) := by decide +kernel
theorem dX7_isWhole_52 : decode cX7_isWhole 52 = .ok (.getfield 13, 3) := by decide +kernel
theorem dX7_isWhole_55 : decode cX7_isWhole 55 = .ok (.iconst 5, 1) := by decide +kernel
theorem dX7_isWhole_56 : decode cX7_isWhole 56 = .ok (.iaload, 1) := by decide +kernel
theorem dX7_isWhole_57 : decode cX7_isWhole 57 = .ok (.if_icmp .ge 47, 3) := by decide +kernel
theorem dX7_isWhole_60 : decode cX7_isWhole 60 = .ok (.aload_n 0, 1) := by decide +kernel
theorem dX7_isWhole_61 : decode cX7_isWhole 61 = .ok (.getfield 20, 3) := by decide +kernel
theorem dX7_isWhole_64 : decode cX7_isWhole 64 = .ok (.bipush 25, 2) := by decide +kernel
theorem dX7_isWhole_66 : decode cX7_isWhole 66 = .ok (.iconst 3, 1) := by decide +kernel
theorem dX7_isWhole_67 : decode cX7_isWhole 67 = .ok (.iload_n 2, 1) := by decide +kernel
theorem dX7_isWhole_68 : decode cX7_isWhole 68 = .ok (.imul, 1) := by decide +kernel
theorem dX7_isWhole_69 : decode cX7_isWhole 69 = .ok (.iadd, 1) := by decide +kernel
theorem dX7_isWhole_70 : decode cX7_isWhole 70 = .ok (.iaload, 1) := by decide +kernel
theorem dX7_isWhole_71 : decode cX7_isWhole 71 = .ok (.aload_n 0, 1) := by decide +kernel
theorem dX7_isWhole_72 : decode cX7_isWhole 72 = .ok (.getfield 13, 3) := by decide +kernel
theorem dX7_isWhole_75 : decode cX7_isWhole 75 = .ok (.iconst 5, 1) := by decide +kernel
theorem dX7_isWhole_76 : decode cX7_isWhole 76 = .ok (.iaload, 1) := by decide +kernel
theorem dX7_isWhole_77 : decode cX7_isWhole 77 = .ok (.if_icmp .ge 27, 3) := by decide +kernel
theorem dX7_isWhole_80 : decode cX7_isWhole 80 = .ok (.aload_n 0, 1) := by decide +kernel
theorem dX7_isWhole_81 : decode cX7_isWhole 81 = .ok (.getfield 20, 3) := by decide +kernel
theorem dX7_isWhole_84 : decode cX7_isWhole 84 = .ok (.bipush 26, 2) := by decide +kernel
theorem dX7_isWhole_86 : decode cX7_isWhole 86 = .ok (.iconst 3, 1) := by decide +kernel
theorem dX7_isWhole_87 : decode cX7_isWhole 87 = .ok (.iload_n 2, 1) := by decide +kernel
theorem dX7_isWhole_88 : decode cX7_isWhole 88 = .ok (.imul, 1) := by decide +kernel
theorem dX7_isWhole_89 : decode cX7_isWhole 89 = .ok (.iadd, 1) := by decide +kernel
theorem dX7_isWhole_90 : decode cX7_isWhole 90 = .ok (.iaload, 1) := by decide +kernel
theorem dX7_isWhole_91 : decode cX7_isWhole 91 = .ok (.aload_n 0, 1) := by decide +kernel
theorem dX7_isWhole_92 : decode cX7_isWhole 92 = .ok (.getfield 17, 3) := by decide +kernel
theorem dX7_isWhole_95 : decode cX7_isWhole 95 = .ok (.iconst 1, 1) := by decide +kernel
theorem dX7_isWhole_96 : decode cX7_isWhole 96 = .ok (.iaload, 1) := by decide +kernel
theorem dX7_isWhole_97 : decode cX7_isWhole 97 = .ok (.if_icmp .ge 7, 3) := by decide +kernel
theorem dX7_isWhole_100 : decode cX7_isWhole 100 = .ok (.iconst 1, 1) := by decide +kernel
theorem dX7_isWhole_101 : decode cX7_isWhole 101 = .ok (.goto 4, 3) := by decide +kernel
theorem dX7_isWhole_104 : decode cX7_isWhole 104 = .ok (.iconst 0, 1) := by decide +kernel
theorem dX7_isWhole_105 : decode cX7_isWhole 105 = .ok (.istore_n 1, 1) := by decide +kernel
theorem dX7_isWhole_106 : decode cX7_isWhole 106 = .ok (.iinc 2 1, 3) := by decide +kernel
theorem dX7_isWhole_109 : decode cX7_isWhole 109 = .ok (.goto (-83), 3) := by decide +kernel
theorem dX7_isWhole_112 : decode cX7_isWhole 112 = .ok (.iconst 0, 1) := by decide +kernel
theorem dX7_isWhole_113 : decode cX7_isWhole 113 = .ok (.istore_n 2, 1) := by decide +kernel
theorem dX7_isWhole_114 : decode cX7_isWhole 114 = .ok (.iload_n 2, 1) := by decide +kernel
theorem dX7_isWhole_115 : decode cX7_isWhole 115 = .ok (.aload_n 0, 1) := by decide +kernel
theorem dX7_isWhole_116 : decode cX7_isWhole 116 = .ok (.getfield 26, 3) := by decide +kernel
theorem dX7_isWhole_119 : decode cX7_isWhole 119 = .ok (.iconst 1, 1) := by decide +kernel
theorem dX7_isWhole_120 : decode cX7_isWhole 120 = .ok (.iaload, 1) := by decide +kernel
theorem dX7_isWhole_121 : decode cX7_isWhole 121 = .ok (.if_icmp .ge 59, 3) := by decide +kernel
theorem dX7_isWhole_124 : decode cX7_isWhole 124 = .ok (.iload_n 1, 1) := by decide +kernel
theorem dX7_isWhole_125 : decode cX7_isWhole 125 = .ok (.ifCond .eq 47, 3) := by decide +kernel
theorem dX7_isWhole_128 : decode cX7_isWhole 128 = .ok (.aload_n 0, 1) := by decide +kernel
theorem dX7_isWhole_129 : decode cX7_isWhole 129 = .ok (.getfield 29, 3) := by decide +kernel
theorem dX7_isWhole_132 : decode cX7_isWhole 132 = .ok (.bipush 12, 2) := by decide +kernel
theorem dX7_isWhole_134 : decode cX7_isWhole 134 = .ok (.iconst 3, 1) := by decide +kernel
theorem dX7_isWhole_135 : decode cX7_isWhole 135 = .ok (.iload_n 2, 1) := by decide +kernel
theorem dX7_isWhole_136 : decode cX7_isWhole 136 = .ok (.imul, 1) := by decide +kernel
theorem dX7_isWhole_137 : decode cX7_isWhole 137 = .ok (.iadd, 1) := by decide +kernel
theorem dX7_isWhole_138 : decode cX7_isWhole 138 = .ok (.iaload, 1) := by decide +kernel
theorem dX7_isWhole_139 : decode cX7_isWhole 139 = .ok (.aload_n 0, 1) := by decide +kernel
theorem dX7_isWhole_140 : decode cX7_isWhole 140 = .ok (.getfield 13, 3) := by decide +kernel
theorem dX7_isWhole_143 : decode cX7_isWhole 143 = .ok (.iconst 5, 1) := by decide +kernel
theorem dX7_isWhole_144 : decode cX7_isWhole 144 = .ok (.iaload, 1) := by decide +kernel
theorem dX7_isWhole_145 : decode cX7_isWhole 145 = .ok (.if_icmp .ge 27, 3) := by decide +kernel
theorem dX7_isWhole_148 : decode cX7_isWhole 148 = .ok (.aload_n 0, 1) := by decide +kernel
theorem dX7_isWhole_149 : decode cX7_isWhole 149 = .ok (.getfield 29, 3) := by decide +kernel
theorem dX7_isWhole_152 : decode cX7_isWhole 152 = .ok (.bipush 14, 2) := by decide +kernel
theorem dX7_isWhole_154 : decode cX7_isWhole 154 = .ok (.iconst 3, 1) := by decide +kernel
theorem dX7_isWhole_155 : decode cX7_isWhole 155 = .ok (.iload_n 2, 1) := by decide +kernel
theorem dX7_isWhole_156 : decode cX7_isWhole 156 = .ok (.imul, 1) := by decide +kernel
theorem dX7_isWhole_157 : decode cX7_isWhole 157 = .ok (.iadd, 1) := by decide +kernel
theorem dX7_isWhole_158 : decode cX7_isWhole 158 = .ok (.iaload, 1) := by decide +kernel
theorem dX7_isWhole_159 : decode cX7_isWhole 159 = .ok (.aload_n 0, 1) := by decide +kernel
theorem dX7_isWhole_160 : decode cX7_isWhole 160 = .ok (.getfield 13, 3) := by decide +kernel
theorem dX7_isWhole_163 : decode cX7_isWhole 163 = .ok (.iconst 5, 1) := by decide +kernel
theorem dX7_isWhole_164 : decode cX7_isWhole 164 = .ok (.iaload, 1) := by decide +kernel
theorem dX7_isWhole_165 : decode cX7_isWhole 165 = .ok (.if_icmp .ge 7, 3) := by decide +kernel
theorem dX7_isWhole_168 : decode cX7_isWhole 168 = .ok (.iconst 1, 1) := by decide +kernel
theorem dX7_isWhole_169 : decode cX7_isWhole 169 = .ok (.goto 4, 3) := by decide +kernel
theorem dX7_isWhole_172 : decode cX7_isWhole 172 = .ok (.iconst 0, 1) := by decide +kernel
theorem dX7_isWhole_173 : decode cX7_isWhole 173 = .ok (.istore_n 1, 1) := by decide +kernel
theorem dX7_isWhole_174 : decode cX7_isWhole 174 = .ok (.iinc 2 1, 3) := by decide +kernel
theorem dX7_isWhole_177 : decode cX7_isWhole 177 = .ok (.goto (-63), 3) := by decide +kernel
theorem dX7_isWhole_180 : decode cX7_isWhole 180 = .ok (.iload_n 1, 1) := by decide +kernel
theorem dX7_isWhole_181 : decode cX7_isWhole 181 = .ok (.ireturn, 1) := by decide +kernel
set_option maxRecDepth 20000 in
theorem ggX7_lay_X7_fault : GoodIn wsX7_lay wsX7_fault := goodIn_r _ [6, 7, 8, 9, 10, 11, 5, 12, 13, 1, 14, 15, 16, 17, 18, 19, 20, 21, 22, 23, 24, 25, 26, 27, 28, 29, 30, 31, 32, 33, 34, 35, 36, 37, 38, 39, 40, 41, 42, 43, 44, 45, 46, 47, 48, 49, 50, 51, 52, 64, 65, 66, 67, 68, 69, 70, 71, 72, 73, 74, 75, 76, 77, 78, 79, 80, 81, 82] (by decide +kernel) (by decide +kernel)
set_option maxRecDepth 20000 in
theorem gX7_lay_X7_fault : GoodIn wsX7_lay (wsV RX7 112 RX7 yX7_fault wsX7_fault) := goodIn_app (goodIn_of _ (by decide +kernel)) ggX7_lay_X7_fault
set_option maxRecDepth 20000 in
theorem ggX7_lay_X7_isWhole : GoodIn wsX7_lay wsX7_isWhole := goodIn_r _ [56, 1, 14, 47, 13, 52, 64, 65, 66, 67, 68, 69, 70, 71, 72, 73, 74, 75, 76, 77, 78, 79, 80, 81, 82] (by decide +kernel) (by decide +kernel)
set_option maxRecDepth 20000 in
theorem gX7_lay_X7_isWhole : GoodIn wsX7_lay (wsV RX7 115 RX7 yX7_isWhole wsX7_isWhole) := goodIn_app (goodIn_of _ (by decide +kernel)) ggX7_lay_X7_isWhole
set_option maxRecDepth 20000 in
theorem ggX7_lay_X7_takes : GoodIn wsX7_lay wsX7_takes := goodIn_r _ [60, 1, 14, 15, 47, 52, 16, 13, 61, 62, 63, 64, 65, 66, 67, 68, 69, 70, 71, 72, 73, 74, 75, 76, 77, 78, 79, 80, 81, 82] (by decide +kernel) (by decide +kernel)
set_option maxRecDepth 20000 in
theorem gX7_lay_X7_takes : GoodIn wsX7_lay (wsV RX7 56 RX7 yX7_takes wsX7_takes) := goodIn_app (goodIn_of _ (by decide +kernel)) ggX7_lay_X7_takes
theorem dX7_lay_0 : decode cX7_lay 0 = .ok (.aload_n 0, 1) := by decide +kernel
theorem dX7_lay_1 : decode cX7_lay 1 = .ok (.invokevirtual 112, 3) := by decide +kernel
theorem dX7_lay_4 : decode cX7_lay 4 = .ok (.bipush (-4), 2) := by decide +kernel
theorem dX7_lay_6 : decode cX7_lay 6 = .ok (.if_icmp .ne 10, 3) := by decide +kernel
theorem dX7_lay_9 : decode cX7_lay 9 = .ok (.aload_n 0, 1) := by decide +kernel
theorem dX7_lay_10 : decode cX7_lay 10 = .ok (.invokevirtual 115, 3) := by decide +kernel
theorem dX7_lay_13 : decode cX7_lay 13 = .ok (.ifCond .ne 6, 3) := by decide +kernel
theorem dX7_lay_16 : decode cX7_lay 16 = .ok (.bipush (-2), 2) := by decide +kernel
theorem dX7_lay_18 : decode cX7_lay 18 = .ok (.ireturn, 1) := by decide +kernel
theorem dX7_lay_19 : decode cX7_lay 19 = .ok (.aload_n 0, 1) := by decide +kernel
theorem dX7_lay_20 : decode cX7_lay 20 = .ok (.invokevirtual 56, 3) := by decide +kernel
theorem dX7_lay_23 : decode cX7_lay 23 = .ok (.aload_n 0, 1) := by decide +kernel
theorem dX7_lay_24 : decode cX7_lay 24 = .ok (.getfield 17, 3) := by decide +kernel
theorem dX7_lay_27 : decode cX7_lay 27 = .ok (.iconst 0, 1) := by decide +kernel
theorem dX7_lay_28 : decode cX7_lay 28 = .ok (.iaload, 1) := by decide +kernel
theorem dX7_lay_29 : decode cX7_lay 29 = .ok (.ireturn, 1) := by decide +kernel
set_option maxRecDepth 20000 in
theorem ggX7_isDoor_X7_in : GoodIn wsX7_isDoor wsX7_in := goodIn_r _ [5] (by decide +kernel) (by decide +kernel)
set_option maxRecDepth 20000 in
theorem gX7_isDoor_X7_in : GoodIn wsX7_isDoor (va_wsS RX7 61 yX7_in wsX7_in) := goodIn_app (goodIn_of _ (by decide +kernel)) ggX7_isDoor_X7_in
theorem dX7_isDoor_0 : decode cX7_isDoor 0 = .ok (.iload_n 1, 1) := by decide +kernel
theorem dX7_isDoor_1 : decode cX7_isDoor 1 = .ok (.i2l, 1) := by decide +kernel
theorem dX7_isDoor_2 : decode cX7_isDoor 2 = .ok (.lconst 0, 1) := by decide +kernel
theorem dX7_isDoor_3 : decode cX7_isDoor 3 = .ok (.aload_n 0, 1) := by decide +kernel
theorem dX7_isDoor_4 : decode cX7_isDoor 4 = .ok (.getfield 17, 3) := by decide +kernel
theorem dX7_isDoor_7 : decode cX7_isDoor 7 = .ok (.iconst 0, 1) := by decide +kernel
theorem dX7_isDoor_8 : decode cX7_isDoor 8 = .ok (.iaload, 1) := by decide +kernel
theorem dX7_isDoor_9 : decode cX7_isDoor 9 = .ok (.iconst 1, 1) := by decide +kernel
theorem dX7_isDoor_10 : decode cX7_isDoor 10 = .ok (.isub, 1) := by decide +kernel
theorem dX7_isDoor_11 : decode cX7_isDoor 11 = .ok (.i2l, 1) := by decide +kernel
theorem dX7_isDoor_12 : decode cX7_isDoor 12 = .ok (.invokestatic 61, 3) := by decide +kernel
theorem dX7_isDoor_15 : decode cX7_isDoor 15 = .ok (.ireturn, 1) := by decide +kernel
set_option maxRecDepth 20000 in
theorem ggX7_isLodger_X7_in : GoodIn wsX7_isLodger wsX7_in := goodIn_r _ [5] (by decide +kernel) (by decide +kernel)
set_option maxRecDepth 20000 in
theorem gX7_isLodger_X7_in : GoodIn wsX7_isLodger (va_wsS RX7 61 yX7_in wsX7_in) := goodIn_app (goodIn_of _ (by decide +kernel)) ggX7_isLodger_X7_in
theorem dX7_isLodger_0 : decode cX7_isLodger 0 = .ok (.iload_n 1, 1) := by decide +kernel
theorem dX7_isLodger_1 : decode cX7_isLodger 1 = .ok (.i2l, 1) := by decide +kernel
theorem dX7_isLodger_2 : decode cX7_isLodger 2 = .ok (.lconst 0, 1) := by decide +kernel
theorem dX7_isLodger_3 : decode cX7_isLodger 3 = .ok (.aload_n 0, 1) := by decide +kernel
theorem dX7_isLodger_4 : decode cX7_isLodger 4 = .ok (.getfield 26, 3) := by decide +kernel
theorem dX7_isLodger_7 : decode cX7_isLodger 7 = .ok (.iconst 0, 1) := by decide +kernel
theorem dX7_isLodger_8 : decode cX7_isLodger 8 = .ok (.iaload, 1) := by decide +kernel
theorem dX7_isLodger_9 : decode cX7_isLodger 9 = .ok (.iconst 1, 1) := by decide +kernel
theorem dX7_isLodger_10 : decode cX7_isLodger 10 = .ok (.isub, 1) := by decide +kernel
theorem dX7_isLodger_11 : decode cX7_isLodger 11 = .ok (.i2l, 1) := by decide +kernel
theorem dX7_isLodger_12 : decode cX7_isLodger 12 = .ok (.invokestatic 61, 3) := by decide +kernel
theorem dX7_isLodger_15 : decode cX7_isLodger 15 = .ok (.ireturn, 1) := by decide +kernel
set_option maxRecDepth 20000 in
theorem ggX7_isRoom_X7_in : GoodIn wsX7_isRoom wsX7_in := goodIn_r _ [5] (by decide +kernel) (by decide +kernel)
set_option maxRecDepth 20000 in
theorem gX7_isRoom_X7_in : GoodIn wsX7_isRoom (va_wsS RX7 61 yX7_in wsX7_in) := goodIn_app (goodIn_of _ (by decide +kernel)) ggX7_isRoom_X7_in
theorem dX7_isRoom_0 : decode cX7_isRoom 0 = .ok (.iload_n 1, 1) := by decide +kernel
theorem dX7_isRoom_1 : decode cX7_isRoom 1 = .ok (.i2l, 1) := by decide +kernel
theorem dX7_isRoom_2 : decode cX7_isRoom 2 = .ok (.lconst 0, 1) := by decide +kernel
theorem dX7_isRoom_3 : decode cX7_isRoom 3 = .ok (.aload_n 0, 1) := by decide +kernel
theorem dX7_isRoom_4 : decode cX7_isRoom 4 = .ok (.getfield 13, 3) := by decide +kernel
theorem dX7_isRoom_7 : decode cX7_isRoom 7 = .ok (.iconst 0, 1) := by decide +kernel
theorem dX7_isRoom_8 : decode cX7_isRoom 8 = .ok (.iaload, 1) := by decide +kernel
theorem dX7_isRoom_9 : decode cX7_isRoom 9 = .ok (.iconst 1, 1) := by decide +kernel
theorem dX7_isRoom_10 : decode cX7_isRoom 10 = .ok (.isub, 1) := by decide +kernel
theorem dX7_isRoom_11 : decode cX7_isRoom 11 = .ok (.i2l, 1) := by decide +kernel
theorem dX7_isRoom_12 : decode cX7_isRoom 12 = .ok (.invokestatic 61, 3) := by decide +kernel
theorem dX7_isRoom_15 : decode cX7_isRoom 15 = .ok (.ireturn, 1) := by decide +kernel
set_option maxRecDepth 20000 in
theorem ggX7_door_X7_isDoor : GoodIn wsX7_door wsX7_isDoor := goodIn_r _ [9, 10, 11, 12, 8, 13, 14, 15, 16, 17, 18, 19, 20, 21, 22, 23, 24, 25, 26, 27, 28, 29, 30, 31, 32] (by decide +kernel) (by decide +kernel)
set_option maxRecDepth 20000 in
theorem gX7_door_X7_isDoor : GoodIn wsX7_door (wsV RX7 118 RX7 yX7_isDoor wsX7_isDoor) := goodIn_app (goodIn_of _ (by decide +kernel)) ggX7_door_X7_isDoor
set_option maxRecDepth 20000 in
theorem ggX7_door_X7_in : GoodIn wsX7_door wsX7_in := goodIn_r _ [13] (by decide +kernel) (by decide +kernel)
set_option maxRecDepth 20000 in
theorem gX7_door_X7_in : GoodIn wsX7_door (va_wsS RX7 61 yX7_in wsX7_in) := goodIn_app (goodIn_of _ (by decide +kernel)) ggX7_door_X7_in
theorem dX7_door_0 : decode cX7_door 0 = .ok (.aload_n 0, 1) := by decide +kernel
theorem dX7_door_1 : decode cX7_door 1 = .ok (.iload_n 1, 1) := by decide +kernel
theorem dX7_door_2 : decode cX7_door 2 = .ok (.invokevirtual 118, 3) := by decide +kernel
theorem dX7_door_5 : decode cX7_door 5 = .ok (.ifCond .eq 15, 3) := by decide +kernel
theorem dX7_door_8 : decode cX7_door 8 = .ok (.iload_n 2, 1) := by decide +kernel
theorem dX7_door_9 : decode cX7_door 9 = .ok (.i2l, 1) := by decide +kernel
theorem dX7_door_10 : decode cX7_door 10 = .ok (.lconst 0, 1) := by decide +kernel
theorem dX7_door_11 : decode cX7_door 11 = .ok (.ldc2_w 121, 3) := by decide +kernel
theorem dX7_door_14 : decode cX7_door 14 = .ok (.invokestatic 61, 3) := by decide +kernel
theorem dX7_door_17 : decode cX7_door 17 = .ok (.ifCond .ne 5, 3) := by decide +kernel
theorem dX7_door_20 : decode cX7_door 20 = .ok (.iconst (-1), 1) := by decide +kernel
theorem dX7_door_21 : decode cX7_door 21 = .ok (.ireturn, 1) := by decide +kernel
theorem dX7_door_22 : decode cX7_door 22 = .ok (.iload_n 2, 1) := by decide +kernel
theorem dX7_door_23 : decode cX7_door 23 = .ok (.iconst 3, 1) := by decide +kernel
theorem dX7_door_24 : decode cX7_door 24 = .ok (.if_icmp .ge 16, 3) := by decide +kernel
theorem dX7_door_27 : decode cX7_door 27 = .ok (.aload_n 0, 1) := by decide +kernel
theorem dX7_door_28 : decode cX7_door 28 = .ok (.getfield 20, 3) := by decide +kernel
theorem dX7_door_31 : decode cX7_door 31 = .ok (.iconst 3, 1) := by decide +kernel
theorem dX7_door_32 : decode cX7_door 32 = .ok (.iload_n 1, 1) := by decide +kernel
theorem dX7_door_33 : decode cX7_door 33 = .ok (.imul, 1) := by decide +kernel
theorem dX7_door_34 : decode cX7_door 34 = .ok (.iload_n 2, 1) := by decide +kernel
theorem dX7_door_35 : decode cX7_door 35 = .ok (.iadd, 1) := by decide +kernel
theorem dX7_door_36 : decode cX7_door 36 = .ok (.iaload, 1) := by decide +kernel
theorem dX7_door_37 : decode cX7_door 37 = .ok (.goto 26, 3) := by decide +kernel
theorem dX7_door_40 : decode cX7_door 40 = .ok (.iload_n 2, 1) := by decide +kernel
theorem dX7_door_41 : decode cX7_door 41 = .ok (.iconst 3, 1) := by decide +kernel
theorem dX7_door_42 : decode cX7_door 42 = .ok (.if_icmp .ne 15, 3) := by decide +kernel
theorem dX7_door_45 : decode cX7_door 45 = .ok (.aload_n 0, 1) := by decide +kernel
theorem dX7_door_46 : decode cX7_door 46 = .ok (.getfield 35, 3) := by decide +kernel
theorem dX7_door_49 : decode cX7_door 49 = .ok (.bipush 32, 2) := by decide +kernel
theorem dX7_door_51 : decode cX7_door 51 = .ok (.iload_n 1, 1) := by decide +kernel
theorem dX7_door_52 : decode cX7_door 52 = .ok (.iadd, 1) := by decide +kernel
theorem dX7_door_53 : decode cX7_door 53 = .ok (.iaload, 1) := by decide +kernel
theorem dX7_door_54 : decode cX7_door 54 = .ok (.goto 9, 3) := by decide +kernel
theorem dX7_door_57 : decode cX7_door 57 = .ok (.aload_n 0, 1) := by decide +kernel
theorem dX7_door_58 : decode cX7_door 58 = .ok (.getfield 23, 3) := by decide +kernel
theorem dX7_door_61 : decode cX7_door 61 = .ok (.iload_n 1, 1) := by decide +kernel
theorem dX7_door_62 : decode cX7_door 62 = .ok (.iaload, 1) := by decide +kernel
theorem dX7_door_63 : decode cX7_door 63 = .ok (.ireturn, 1) := by decide +kernel
set_option maxRecDepth 20000 in
theorem ggX7_lodger_X7_isLodger : GoodIn wsX7_lodger wsX7_isLodger := goodIn_r _ [8, 9, 10, 11, 7, 12, 13, 14, 15, 16, 17, 18, 19, 20, 21, 22, 23, 24, 25, 26, 27, 28, 29, 30, 31] (by decide +kernel) (by decide +kernel)
set_option maxRecDepth 20000 in
theorem gX7_lodger_X7_isLodger : GoodIn wsX7_lodger (wsV RX7 123 RX7 yX7_isLodger wsX7_isLodger) := goodIn_app (goodIn_of _ (by decide +kernel)) ggX7_lodger_X7_isLodger
set_option maxRecDepth 20000 in
theorem ggX7_lodger_X7_in : GoodIn wsX7_lodger wsX7_in := goodIn_r _ [12] (by decide +kernel) (by decide +kernel)
set_option maxRecDepth 20000 in
theorem gX7_lodger_X7_in : GoodIn wsX7_lodger (va_wsS RX7 61 yX7_in wsX7_in) := goodIn_app (goodIn_of _ (by decide +kernel)) ggX7_lodger_X7_in
theorem dX7_lodger_0 : decode cX7_lodger 0 = .ok (.aload_n 0, 1) := by decide +kernel
theorem dX7_lodger_1 : decode cX7_lodger 1 = .ok (.iload_n 1, 1) := by decide +kernel
theorem dX7_lodger_2 : decode cX7_lodger 2 = .ok (.invokevirtual 123, 3) := by decide +kernel
theorem dX7_lodger_5 : decode cX7_lodger 5 = .ok (.ifCond .eq 15, 3) := by decide +kernel
theorem dX7_lodger_8 : decode cX7_lodger 8 = .ok (.iload_n 2, 1) := by decide +kernel
theorem dX7_lodger_9 : decode cX7_lodger 9 = .ok (.i2l, 1) := by decide +kernel
theorem dX7_lodger_10 : decode cX7_lodger 10 = .ok (.lconst 0, 1) := by decide +kernel
theorem dX7_lodger_11 : decode cX7_lodger 11 = .ok (.ldc2_w 76, 3) := by decide +kernel
theorem dX7_lodger_14 : decode cX7_lodger 14 = .ok (.invokestatic 61, 3) := by decide +kernel
theorem dX7_lodger_17 : decode cX7_lodger 17 = .ok (.ifCond .ne 7, 3) := by decide +kernel
theorem dX7_lodger_20 : decode cX7_lodger 20 = .ok (.iconst (-1), 1) := by decide +kernel
theorem dX7_lodger_21 : decode cX7_lodger 21 = .ok (.goto 29, 3) := by decide +kernel
theorem dX7_lodger_24 : decode cX7_lodger 24 = .ok (.iload_n 2, 1) := by decide +kernel
theorem dX7_lodger_25 : decode cX7_lodger 25 = .ok (.ifCond .ne 15, 3) := by decide +kernel
theorem dX7_lodger_28 : decode cX7_lodger 28 = .ok (.aload_n 0, 1) := by decide +kernel
theorem dX7_lodger_29 : decode cX7_lodger 29 = .ok (.getfield 35, 3) := by decide +kernel
theorem dX7_lodger_32 : decode cX7_lodger 32 = .ok (.bipush 40, 2) := by decide +kernel
theorem dX7_lodger_34 : decode cX7_lodger 34 = .ok (.iload_n 1, 1) := by decide +kernel
theorem dX7_lodger_35 : decode cX7_lodger 35 = .ok (.iadd, 1) := by decide +kernel
theorem dX7_lodger_36 : decode cX7_lodger 36 = .ok (.iaload, 1) := by decide +kernel
theorem dX7_lodger_37 : decode cX7_lodger 37 = .ok (.goto 13, 3) := by decide +kernel
theorem dX7_lodger_40 : decode cX7_lodger 40 = .ok (.aload_n 0, 1) := by decide +kernel
theorem dX7_lodger_41 : decode cX7_lodger 41 = .ok (.getfield 29, 3) := by decide +kernel
theorem dX7_lodger_44 : decode cX7_lodger 44 = .ok (.iconst 3, 1) := by decide +kernel
theorem dX7_lodger_45 : decode cX7_lodger 45 = .ok (.iload_n 1, 1) := by decide +kernel
theorem dX7_lodger_46 : decode cX7_lodger 46 = .ok (.imul, 1) := by decide +kernel
theorem dX7_lodger_47 : decode cX7_lodger 47 = .ok (.iload_n 2, 1) := by decide +kernel
theorem dX7_lodger_48 : decode cX7_lodger 48 = .ok (.iadd, 1) := by decide +kernel
theorem dX7_lodger_49 : decode cX7_lodger 49 = .ok (.iaload, 1) := by decide +kernel
theorem dX7_lodger_50 : decode cX7_lodger 50 = .ok (.ireturn, 1) := by decide +kernel
set_option maxRecDepth 20000 in
theorem ggX7_grudge_X7_isDoor : GoodIn wsX7_grudge wsX7_isDoor := goodIn_r _ [6, 7, 8, 9, 5, 10, 16, 17, 18, 19, 20, 21, 22, 23, 24, 25, 26, 27, 28, 29, 30, 31, 32, 33, 34] (by decide +kernel) (by decide +kernel)
set_option maxRecDepth 20000 in
theorem gX7_grudge_X7_isDoor : GoodIn wsX7_grudge (wsV RX7 118 RX7 yX7_isDoor wsX7_isDoor) := goodIn_app (goodIn_of _ (by decide +kernel)) ggX7_grudge_X7_isDoor
set_option maxRecDepth 20000 in
theorem ggX7_grudge_X7_isLodger : GoodIn wsX7_grudge wsX7_isLodger := goodIn_r _ [14, 15, 8, 9, 5, 10, 16, 17, 18, 19, 20, 21, 22, 23, 24, 25, 26, 27, 28, 29, 30, 31, 32, 33, 34] (by decide +kernel) (by decide +kernel)
set_option maxRecDepth 20000 in
theorem gX7_grudge_X7_isLodger : GoodIn wsX7_grudge (wsV RX7 123 RX7 yX7_isLodger wsX7_isLodger) := goodIn_app (goodIn_of _ (by decide +kernel)) ggX7_grudge_X7_isLodger
theorem dX7_grudge_0 : decode cX7_grudge 0 = .ok (.aload_n 0, 1) := by decide +kernel
theorem dX7_grudge_1 : decode cX7_grudge 1 = .ok (.iload_n 1, 1) := by decide +kernel
theorem dX7_grudge_2 : decode cX7_grudge 2 = .ok (.invokevirtual 118, 3) := by decide +kernel
theorem dX7_grudge_5 : decode cX7_grudge 5 = .ok (.ifCond .eq 24, 3) := by decide +kernel
theorem dX7_grudge_8 : decode cX7_grudge 8 = .ok (.aload_n 0, 1) := by decide +kernel
theorem dX7_grudge_9 : decode cX7_grudge 9 = .ok (.iload_n 2, 1) := by decide +kernel
theorem dX7_grudge_10 : decode cX7_grudge 10 = .ok (.invokevirtual 123, 3) := by decide +kernel
theorem dX7_grudge_13 : decode cX7_grudge 13 = .ok (.ifCond .eq 16, 3) := by decide +kernel
theorem dX7_grudge_16 : decode cX7_grudge 16 = .ok (.aload_n 0, 1) := by decide +kernel
theorem dX7_grudge_17 : decode cX7_grudge 17 = .ok (.getfield 35, 3) := by decide +kernel
theorem dX7_grudge_20 : decode cX7_grudge 20 = .ok (.iconst 4, 1) := by decide +kernel
theorem dX7_grudge_21 : decode cX7_grudge 21 = .ok (.iload_n 1, 1) := by decide +kernel
theorem dX7_grudge_22 : decode cX7_grudge 22 = .ok (.imul, 1) := by decide +kernel
theorem dX7_grudge_23 : decode cX7_grudge 23 = .ok (.iload_n 2, 1) := by decide +kernel
theorem dX7_grudge_24 : decode cX7_grudge 24 = .ok (.iadd, 1) := by decide +kernel
theorem dX7_grudge_25 : decode cX7_grudge 25 = .ok (.iaload, 1) := by decide +kernel
theorem dX7_grudge_26 : decode cX7_grudge 26 = .ok (.goto 4, 3) := by decide +kernel
theorem dX7_grudge_29 : decode cX7_grudge 29 = .ok (.iconst (-1), 1) := by decide +kernel
theorem dX7_grudge_30 : decode cX7_grudge 30 = .ok (.ireturn, 1) := by decide +kernel
theorem dX7_copies_0 : decode cX7_copies 0 = .ok (.iconst 0, 1) := by decide +kernel
theorem dX7_copies_1 : decode cX7_copies 1 = .ok (.istore_n 3, 1) := by decide +kernel
theorem dX7_copies_2 : decode cX7_copies 2 = .ok (.iload_n 3, 1) := by decide +kernel
theorem dX7_copies_3 : decode cX7_copies 3 = .ok (.bipush 46, 2) := by decide +kernel
theorem dX7_copies_5 : decode cX7_copies 5 = .ok (.if_icmp .ge 31, 3) := by decide +kernel
theorem dX7_copies_8 : decode cX7_copies 8 = .ok (.aload_n 0, 1) := by decide +kernel
theorem dX7_copies_9 : decode cX7_copies 9 = .ok (.getfield 35, 3) := by decide +kernel
theorem dX7_copies_12 : decode cX7_copies 12 = .ok (.bipush 46, 2) := by decide +kernel
theorem dX7_copies_14 : decode cX7_copies 14 = .ok (.iload_n 2, 1) := by decide +kernel
theorem dX7_copies_15 : decode cX7_copies 15 = .ok (.imul, 1) := by decide +kernel
theorem dX7_copies_16 : decode cX7_copies 16 = .ok (.iload_n 3, 1) := by decide +kernel
theorem dX7_copies_17 : decode cX7_copies 17 = .ok (.iadd, 1) := by decide +kernel
theorem dX7_copies_18 : decode cX7_copies 18 = .ok (.aload_n 0, 1) := by decide +kernel
theorem dX7_copies_19 : decode cX7_copies 19 = .ok (.getfield 35, 3) := by decide +kernel
theorem dX7_copies_22 : decode cX7_copies 22 = .ok (.bipush 46, 2) := by decide +kernel
theorem dX7_copies_24 : decode cX7_copies 24 = .ok (.iload_n 1, 1) := by decide +kernel
theorem dX7_copies_25 : decode cX7_copies 25 = .ok (.imul, 1) := by decide +kernel
theorem dX7_copies_26 : decode cX7_copies 26 = .ok (.iload_n 3, 1) := by decide +kernel
theorem dX7_copies_27 : decode cX7_copies 27 = .ok (.iadd, 1) := by decide +kernel
theorem dX7_copies_28 : decode cX7_copies 28 = .ok (.iaload, 1) := by decide +kernel
theorem dX7_copies_29 : decode cX7_copies 29 = .ok (.iastore, 1) := by decide +kernel
theorem dX7_copies_30 : decode cX7_copies 30 = .ok (.iinc 3 1, 3) := by decide +kernel
theorem dX7_copies_33 : decode cX7_copies 33 = .ok (.goto (-31), 3) := by decide +kernel
theorem dX7_copies_36 : decode cX7_copies 36 = .ok (.return_, 1) := by decide +kernel
set_option maxRecDepth 20000 in
theorem ggX7_known_X7_copies : GoodIn wsX7_known wsX7_copies := goodIn_r _ [6, 7, 8, 9, 10, 11, 12, 13, 14, 15, 16, 17, 18, 19, 20, 21, 22, 23, 24, 25, 26] (by decide +kernel) (by decide +kernel)
set_option maxRecDepth 20000 in
theorem gX7_known_X7_copies : GoodIn wsX7_known (wsV RX7 126 RX7 yX7_copies wsX7_copies) := goodIn_app (goodIn_of _ (by decide +kernel)) ggX7_known_X7_copies
theorem dX7_known_0 : decode cX7_known 0 = .ok (.aload_n 0, 1) := by decide +kernel
theorem dX7_known_1 : decode cX7_known 1 = .ok (.getfield 103, 3) := by decide +kernel
theorem dX7_known_4 : decode cX7_known 4 = .ok (.bipush 8, 2) := by decide +kernel
theorem dX7_known_6 : decode cX7_known 6 = .ok (.if_icmp .ne 35, 3) := by decide +kernel
theorem dX7_known_9 : decode cX7_known 9 = .ok (.iconst 3, 1) := by decide +kernel
theorem dX7_known_10 : decode cX7_known 10 = .ok (.istore_n 1, 1) := by decide +kernel
theorem dX7_known_11 : decode cX7_known 11 = .ok (.iload_n 1, 1) := by decide +kernel
theorem dX7_known_12 : decode cX7_known 12 = .ok (.bipush 10, 2) := by decide +kernel
theorem dX7_known_14 : decode cX7_known 14 = .ok (.if_icmp .ge 17, 3) := by decide +kernel
theorem dX7_known_17 : decode cX7_known 17 = .ok (.aload_n 0, 1) := by decide +kernel
theorem dX7_known_18 : decode cX7_known 18 = .ok (.iload_n 1, 1) := by decide +kernel
theorem dX7_known_19 : decode cX7_known 19 = .ok (.iconst 1, 1) := by decide +kernel
theorem dX7_known_20 : decode cX7_known 20 = .ok (.iadd, 1) := by decide +kernel
theorem dX7_known_21 : decode cX7_known 21 = .ok (.iload_n 1, 1) := by decide +kernel
theorem dX7_known_22 : decode cX7_known 22 = .ok (.invokevirtual 126, 3) := by decide +kernel
theorem dX7_known_25 : decode cX7_known 25 = .ok (.iinc 1 1, 3) := by decide +kernel
theorem dX7_known_28 : decode cX7_known 28 = .ok (.goto (-17), 3) := by decide +kernel
theorem dX7_known_31 : decode cX7_known 31 = .ok (.aload_n 0, 1) := by decide +kernel
theorem dX7_known_32 : decode cX7_known 32 = .ok (.dup, 1) := by decide +kernel
theorem dX7_known_33 : decode cX7_known 33 = .ok (.getfield 103, 3) := by decide +kernel
theorem dX7_known_36 : decode cX7_known 36 = .ok (.iconst 1, 1) := by decide +kernel
theorem dX7_known_37 : decode cX7_known 37 = .ok (.isub, 1) := by decide +kernel
theorem dX7_known_38 : decode cX7_known 38 = .ok (.putfield 103, 3) := by decide +kernel
theorem dX7_known_41 : decode cX7_known 41 = .ok (.aload_n 0, 1) := by decide +kernel
theorem dX7_known_42 : decode cX7_known 42 = .ok (.iconst 0, 1) := by decide +kernel
theorem dX7_known_43 : decode cX7_known 43 = .ok (.iconst 3, 1) := by decide +kernel
theorem dX7_known_44 : decode cX7_known 44 = .ok (.aload_n 0, 1) := by decide +kernel
theorem dX7_known_45 : decode cX7_known 45 = .ok (.getfield 103, 3) := by decide +kernel
theorem dX7_known_48 : decode cX7_known 48 = .ok (.iadd, 1) := by decide +kernel
theorem dX7_known_49 : decode cX7_known 49 = .ok (.invokevirtual 126, 3) := by decide +kernel
theorem dX7_known_52 : decode cX7_known 52 = .ok (.aload_n 0, 1) := by decide +kernel
theorem dX7_known_53 : decode cX7_known 53 = .ok (.dup, 1) := by decide +kernel
theorem dX7_known_54 : decode cX7_known 54 = .ok (.getfield 103, 3) := by decide +kernel
theorem dX7_known_57 : decode cX7_known 57 = .ok (.iconst 1, 1) := by decide +kernel
theorem dX7_known_58 : decode cX7_known 58 = .ok (.iadd, 1) := by decide +kernel
theorem dX7_known_59 : decode cX7_known 59 = .ok (.putfield 103, 3) := by decide +kernel
theorem dX7_known_62 : decode cX7_known 62 = .ok (.return_, 1) := by decide +kernel
theorem dX7_costs_0 : decode cX7_costs 0 = .ok (.aload_n 0, 1) := by decide +kernel
theorem dX7_costs_1 : decode cX7_costs 1 = .ok (.getfield 35, 3) := by decide +kernel
theorem dX7_costs_4 : decode cX7_costs 4 = .ok (.bipush 46, 2) := by decide +kernel
theorem dX7_costs_6 : decode cX7_costs 6 = .ok (.iload_n 1, 1) := by decide +kernel
theorem dX7_costs_7 : decode cX7_costs 7 = .ok (.imul, 1) := by decide +kernel
theorem dX7_costs_8 : decode cX7_costs 8 = .ok (.bipush 32, 2) := by decide +kernel
theorem dX7_costs_10 : decode cX7_costs 10 = .ok (.iadd, 1) := by decide +kernel
theorem dX7_costs_11 : decode cX7_costs 11 = .ok (.iload_n 2, 1) := by decide +kernel
theorem dX7_costs_12 : decode cX7_costs 12 = .ok (.iadd, 1) := by decide +kernel
theorem dX7_costs_13 : decode cX7_costs 13 = .ok (.iaload, 1) := by decide +kernel
theorem dX7_costs_14 : decode cX7_costs 14 = .ok (.ifCond .le 7, 3) := by decide +kernel
theorem dX7_costs_17 : decode cX7_costs 17 = .ok (.iconst 1, 1) := by decide +kernel
theorem dX7_costs_18 : decode cX7_costs 18 = .ok (.goto 20, 3) := by decide +kernel
theorem dX7_costs_21 : decode cX7_costs 21 = .ok (.iconst 1, 1) := by decide +kernel
theorem dX7_costs_22 : decode cX7_costs 22 = .ok (.aload_n 0, 1) := by decide +kernel
theorem dX7_costs_23 : decode cX7_costs 23 = .ok (.getfield 35, 3) := by decide +kernel
theorem dX7_costs_26 : decode cX7_costs 26 = .ok (.bipush 46, 2) := by decide +kernel
theorem dX7_costs_28 : decode cX7_costs 28 = .ok (.iload_n 1, 1) := by decide +kernel
theorem dX7_costs_29 : decode cX7_costs 29 = .ok (.imul, 1) := by decide +kernel
theorem dX7_costs_30 : decode cX7_costs 30 = .ok (.iconst 4, 1) := by decide +kernel
theorem dX7_costs_31 : decode cX7_costs 31 = .ok (.iload_n 2, 1) := by decide +kernel
theorem dX7_costs_32 : decode cX7_costs 32 = .ok (.imul, 1) := by decide +kernel
theorem dX7_costs_33 : decode cX7_costs 33 = .ok (.iadd, 1) := by decide +kernel
theorem dX7_costs_34 : decode cX7_costs 34 = .ok (.iload_n 3, 1) := by decide +kernel
theorem dX7_costs_35 : decode cX7_costs 35 = .ok (.iadd, 1) := by decide +kernel
theorem dX7_costs_36 : decode cX7_costs 36 = .ok (.iaload, 1) := by decide +kernel
theorem dX7_costs_37 : decode cX7_costs 37 = .ok (.iadd, 1) := by decide +kernel
theorem dX7_costs_38 : decode cX7_costs 38 = .ok (.ireturn, 1) := by decide +kernel
theorem dX7_isOf_0 : decode cX7_isOf 0 = .ok (.aload_n 0, 1) := by decide +kernel
theorem dX7_isOf_1 : decode cX7_isOf 1 = .ok (.getfield 20, 3) := by decide +kernel
theorem dX7_isOf_4 : decode cX7_isOf 4 = .ok (.iconst 3, 1) := by decide +kernel
theorem dX7_isOf_5 : decode cX7_isOf 5 = .ok (.iload_n 1, 1) := by decide +kernel
theorem dX7_isOf_6 : decode cX7_isOf 6 = .ok (.imul, 1) := by decide +kernel
theorem dX7_isOf_7 : decode cX7_isOf 7 = .ok (.iaload, 1) := by decide +kernel
theorem dX7_isOf_8 : decode cX7_isOf 8 = .ok (.iload_n 2, 1) := by decide +kernel
theorem dX7_isOf_9 : decode cX7_isOf 9 = .ok (.if_icmp .eq 17, 3) := by decide +kernel
theorem dX7_isOf_12 : decode cX7_isOf 12 = .ok (.aload_n 0, 1) := by decide +kernel
theorem dX7_isOf_13 : decode cX7_isOf 13 = .ok (.getfield 20, 3) := by decide +kernel
theorem dX7_isOf_16 : decode cX7_isOf 16 = .ok (.iconst 3, 1) := by decide +kernel
theorem dX7_isOf_17 : decode cX7_isOf 17 = .ok (.iload_n 1, 1) := by decide +kernel
theorem dX7_isOf_18 : decode cX7_isOf 18 = .ok (.imul, 1) := by decide +kernel
theorem dX7_isOf_19 : decode cX7_isOf 19 = .ok (.iconst 1, 1) := by decide +kernel
theorem dX7_isOf_20 : decode cX7_isOf 20 = .ok (.iadd, 1) := by decide +kernel
theorem dX7_isOf_21 : decode cX7_isOf 21 = .ok (.iaload, 1) := by decide +kernel
theorem dX7_isOf_22 : decode cX7_isOf 22 = .ok (.iload_n 2, 1) := by decide +kernel
theorem dX7_isOf_23 : decode cX7_isOf 23 = .ok (.if_icmp .ne 7, 3) := by decide +kernel
theorem dX7_isOf_26 : decode cX7_isOf 26 = .ok (.iconst 1, 1) := by decide +kernel
theorem dX7_isOf_27 : decode cX7_isOf 27 = .ok (.goto 4, 3) := by decide +kernel
theorem dX7_isOf_30 : decode cX7_isOf 30 = .ok (.iconst 0, 1) := by decide +kernel
theorem dX7_isOf_31 : decode cX7_isOf 31 = .ok (.ireturn, 1) := by decide +kernel
theorem dX7_over_0 : decode cX7_over 0 = .ok (.aload_n 0, 1) := by decide +kernel
theorem dX7_over_1 : decode cX7_over 1 = .ok (.getfield 20, 3) := by decide +kernel
theorem dX7_over_4 : decode cX7_over 4 = .ok (.iconst 3, 1) := by decide +kernel
theorem dX7_over_5 : decode cX7_over 5 = .ok (.iload_n 1, 1) := by decide +kernel
theorem dX7_over_6 : decode cX7_over 6 = .ok (.imul, 1) := by decide +kernel
theorem dX7_over_7 : decode cX7_over 7 = .ok (.iaload, 1) := by decide +kernel
theorem dX7_over_8 : decode cX7_over 8 = .ok (.iload_n 2, 1) := by decide +kernel
theorem dX7_over_9 : decode cX7_over 9 = .ok (.if_icmp .ne 16, 3) := by decide +kernel
theorem dX7_over_12 : decode cX7_over 12 = .ok (.aload_n 0, 1) := by decide +kernel
theorem dX7_over_13 : decode cX7_over 13 = .ok (.getfield 20, 3) := by decide +kernel
theorem dX7_over_16 : decode cX7_over 16 = .ok (.iconst 3, 1) := by decide +kernel
theorem dX7_over_17 : decode cX7_over 17 = .ok (.iload_n 1, 1) := by decide +kernel
theorem dX7_over_18 : decode cX7_over 18 = .ok (.imul, 1) := by decide +kernel
theorem dX7_over_19 : decode cX7_over 19 = .ok (.iconst 1, 1) := by decide +kernel
theorem dX7_over_20 : decode cX7_over 20 = .ok (.iadd, 1) := by decide +kernel
theorem dX7_over_21 : decode cX7_over 21 = .ok (.iaload, 1) := by decide +kernel
theorem dX7_over_22 : decode cX7_over 22 = .ok (.goto 11, 3) := by decide +kernel
theorem dX7_over_25 : decode cX7_over 25 = .ok (.aload_n 0, 1) := by decide +kernel
theorem dX7_over_26 : decode cX7_over 26 = .ok (.getfield 20, 3) := by decide +kernel
theorem dX7_over_29 : decode cX7_over 29 = .ok (.iconst 3, 1) := by decide +kernel
theorem dX7_over_30 : decode cX7_over 30 = .ok (.iload_n 1, 1) := by decide +kernel
theorem dX7_over_31 : decode cX7_over 31 = .ok (.imul, 1) := by decide +kernel
theorem dX7_over_32 : decode cX7_over 32 = .ok (.iaload, 1) := by decide +kernel
theorem dX7_over_33 : decode cX7_over 33 = .ok (.ireturn, 1) := by decide +kernel
theorem dX7_becomes_0 : decode cX7_becomes 0 = .ok (.iload_n 3, 1) := by decide +kernel
theorem dX7_becomes_1 : decode cX7_becomes 1 = .ok (.ifCond .eq 18, 3) := by decide +kernel
theorem dX7_becomes_4 : decode cX7_becomes 4 = .ok (.iload_n 2, 1) := by decide +kernel
theorem dX7_becomes_5 : decode cX7_becomes 5 = .ok (.aload_n 0, 1) := by decide +kernel
theorem dX7_becomes_6 : decode cX7_becomes 6 = .ok (.getfield 29, 3) := by decide +kernel
theorem dX7_becomes_9 : decode cX7_becomes 9 = .ok (.iconst 3, 1) := by decide +kernel
theorem dX7_becomes_10 : decode cX7_becomes 10 = .ok (.iload_n 1, 1) := by decide +kernel
theorem dX7_becomes_11 : decode cX7_becomes 11 = .ok (.imul, 1) := by decide +kernel
theorem dX7_becomes_12 : decode cX7_becomes 12 = .ok (.iconst 1, 1) := by decide +kernel
theorem dX7_becomes_13 : decode cX7_becomes 13 = .ok (.iadd, 1) := by decide +kernel
theorem dX7_becomes_14 : decode cX7_becomes 14 = .ok (.iaload, 1) := by decide +kernel
theorem dX7_becomes_15 : decode cX7_becomes 15 = .ok (.iadd, 1) := by decide +kernel
theorem dX7_becomes_16 : decode cX7_becomes 16 = .ok (.goto 11, 3) := by decide +kernel
theorem dX7_becomes_19 : decode cX7_becomes 19 = .ok (.iload_n 2, 1) := by decide +kernel
theorem dX7_becomes_20 : decode cX7_becomes 20 = .ok (.aload_n 0, 1) := by decide +kernel
theorem dX7_becomes_21 : decode cX7_becomes 21 = .ok (.getfield 13, 3) := by decide +kernel
theorem dX7_becomes_24 : decode cX7_becomes 24 = .ok (.iconst 3, 1) := by decide +kernel
theorem dX7_becomes_25 : decode cX7_becomes 25 = .ok (.iaload, 1) := by decide +kernel
theorem dX7_becomes_26 : decode cX7_becomes 26 = .ok (.isub, 1) := by decide +kernel
theorem dX7_becomes_27 : decode cX7_becomes 27 = .ok (.istore 4, 2) := by decide +kernel
theorem dX7_becomes_29 : decode cX7_becomes 29 = .ok (.iload 4, 2) := by decide +kernel
theorem dX7_becomes_31 : decode cX7_becomes 31 = .ok (.ifCond .ge 7, 3) := by decide +kernel
theorem dX7_becomes_34 : decode cX7_becomes 34 = .ok (.iconst 0, 1) := by decide +kernel
theorem dX7_becomes_35 : decode cX7_becomes 35 = .ok (.goto 17, 3) := by decide +kernel
theorem dX7_becomes_38 : decode cX7_becomes 38 = .ok (.iload 4, 2) := by decide +kernel
theorem dX7_becomes_40 : decode cX7_becomes 40 = .ok (.bipush 99, 2) := by decide +kernel
theorem dX7_becomes_42 : decode cX7_becomes 42 = .ok (.if_icmp .le 8, 3) := by decide +kernel
theorem dX7_becomes_45 : decode cX7_becomes 45 = .ok (.bipush 99, 2) := by decide +kernel
theorem dX7_becomes_47 : decode cX7_becomes 47 = .ok (.goto 5, 3) := by decide +kernel
theorem dX7_becomes_50 : decode cX7_becomes 50 = .ok (.iload 4, 2) := by decide +kernel
theorem dX7_becomes_52 : decode cX7_becomes 52 = .ok (.ireturn, 1) := by decide +kernel
set_option maxRecDepth 20000 in
theorem ggX7_goes_X7_costs : GoodIn wsX7_goes wsX7_costs := goodIn_r _ [6, 1, 18, 19, 20, 21, 22, 23, 24, 25, 26, 27, 28, 29, 30, 31, 32, 33, 34, 35, 36] (by decide +kernel) (by decide +kernel)
set_option maxRecDepth 20000 in
theorem gX7_goes_X7_costs : GoodIn wsX7_goes (wsV RX7 130 RX7 yX7_costs wsX7_costs) := goodIn_app (goodIn_of _ (by decide +kernel)) ggX7_goes_X7_costs
set_option maxRecDepth 20000 in
theorem ggX7_goes_X7_becomes : GoodIn wsX7_goes wsX7_becomes := goodIn_r _ [10, 11, 12, 18, 19, 20, 21, 22, 23, 24, 25, 26, 27, 28, 29, 30, 31, 32, 33, 34, 35, 36] (by decide +kernel) (by decide +kernel)
set_option maxRecDepth 20000 in
theorem gX7_goes_X7_becomes : GoodIn wsX7_goes (wsV RX7 134 RX7 yX7_becomes wsX7_becomes) := goodIn_app (goodIn_of _ (by decide +kernel)) ggX7_goes_X7_becomes
set_option maxRecDepth 20000 in
theorem ggX7_goes_X7_over : GoodIn wsX7_goes wsX7_over := goodIn_r _ [16, 17, 18, 19, 20, 21, 22, 23, 24, 25, 26, 27, 28, 29, 30, 31, 32, 33, 34, 35, 36] (by decide +kernel) (by decide +kernel)
set_option maxRecDepth 20000 in
theorem gX7_goes_X7_over : GoodIn wsX7_goes (wsV RX7 138 RX7 yX7_over wsX7_over) := goodIn_app (goodIn_of _ (by decide +kernel)) ggX7_goes_X7_over
theorem dX7_goes_0 : decode cX7_goes 0 = .ok (.bipush 46, 2) := by decide +kernel
theorem dX7_goes_2 : decode cX7_goes 2 = .ok (.iload_n 1, 1) := by decide +kernel
theorem dX7_goes_3 : decode cX7_goes 3 = .ok (.imul, 1) := by decide +kernel
theorem dX7_goes_4 : decode cX7_goes 4 = .ok (.istore 5, 2) := by decide +kernel
theorem dX7_goes_6 : decode cX7_goes 6 = .ok (.aload_n 0, 1) := by decide +kernel
theorem dX7_goes_7 : decode cX7_goes 7 = .ok (.iload_n 1, 1) := by decide +kernel
theorem dX7_goes_8 : decode cX7_goes 8 = .ok (.iload_n 3, 1) := by decide +kernel
theorem dX7_goes_9 : decode cX7_goes 9 = .ok (.iload_n 2, 1) := by decide +kernel
theorem dX7_goes_10 : decode cX7_goes 10 = .ok (.invokevirtual 130, 3) := by decide +kernel
theorem dX7_goes_13 : decode cX7_goes 13 = .ok (.istore 6, 2) := by decide +kernel
theorem dX7_goes_15 : decode cX7_goes 15 = .ok (.aload_n 0, 1) := by decide +kernel
theorem dX7_goes_16 : decode cX7_goes 16 = .ok (.getfield 35, 3) := by decide +kernel
theorem dX7_goes_19 : decode cX7_goes 19 = .ok (.iload 5, 2) := by decide +kernel
theorem dX7_goes_21 : decode cX7_goes 21 = .ok (.iconst 4, 1) := by decide +kernel
theorem dX7_goes_22 : decode cX7_goes 22 = .ok (.iload_n 3, 1) := by decide +kernel
theorem dX7_goes_23 : decode cX7_goes 23 = .ok (.imul, 1) := by decide +kernel
theorem dX7_goes_24 : decode cX7_goes 24 = .ok (.iadd, 1) := by decide +kernel
theorem dX7_goes_25 : decode cX7_goes 25 = .ok (.iload_n 2, 1) := by decide +kernel
theorem dX7_goes_26 : decode cX7_goes 26 = .ok (.iadd, 1) := by decide +kernel
theorem dX7_goes_27 : decode cX7_goes 27 = .ok (.aload_n 0, 1) := by decide +kernel
theorem dX7_goes_28 : decode cX7_goes 28 = .ok (.iload_n 2, 1) := by decide +kernel
theorem dX7_goes_29 : decode cX7_goes 29 = .ok (.aload_n 0, 1) := by decide +kernel
theorem dX7_goes_30 : decode cX7_goes 30 = .ok (.getfield 35, 3) := by decide +kernel
theorem dX7_goes_33 : decode cX7_goes 33 = .ok (.iload 5, 2) := by decide +kernel
theorem dX7_goes_35 : decode cX7_goes 35 = .ok (.iconst 4, 1) := by decide +kernel
theorem dX7_goes_36 : decode cX7_goes 36 = .ok (.iload_n 3, 1) := by decide +kernel
theorem dX7_goes_37 : decode cX7_goes 37 = .ok (.imul, 1) := by decide +kernel
theorem dX7_goes_38 : decode cX7_goes 38 = .ok (.iadd, 1) := by decide +kernel
theorem dX7_goes_39 : decode cX7_goes 39 = .ok (.iload_n 2, 1) := by decide +kernel
theorem dX7_goes_40 : decode cX7_goes 40 = .ok (.iadd, 1) := by decide +kernel
theorem dX7_goes_41 : decode cX7_goes 41 = .ok (.iaload, 1) := by decide +kernel
theorem dX7_goes_42 : decode cX7_goes 42 = .ok (.iload 4, 2) := by decide +kernel
theorem dX7_goes_44 : decode cX7_goes 44 = .ok (.invokevirtual 134, 3) := by decide +kernel
theorem dX7_goes_47 : decode cX7_goes 47 = .ok (.iastore, 1) := by decide +kernel
theorem dX7_goes_48 : decode cX7_goes 48 = .ok (.aload_n 0, 1) := by decide +kernel
theorem dX7_goes_49 : decode cX7_goes 49 = .ok (.getfield 35, 3) := by decide +kernel
theorem dX7_goes_52 : decode cX7_goes 52 = .ok (.iload 5, 2) := by decide +kernel
theorem dX7_goes_54 : decode cX7_goes 54 = .ok (.bipush 40, 2) := by decide +kernel
theorem dX7_goes_56 : decode cX7_goes 56 = .ok (.iadd, 1) := by decide +kernel
theorem dX7_goes_57 : decode cX7_goes 57 = .ok (.iload_n 2, 1) := by decide +kernel
theorem dX7_goes_58 : decode cX7_goes 58 = .ok (.iadd, 1) := by decide +kernel
theorem dX7_goes_59 : decode cX7_goes 59 = .ok (.aload_n 0, 1) := by decide +kernel
theorem dX7_goes_60 : decode cX7_goes 60 = .ok (.iload_n 3, 1) := by decide +kernel
theorem dX7_goes_61 : decode cX7_goes 61 = .ok (.aload_n 0, 1) := by decide +kernel
theorem dX7_goes_62 : decode cX7_goes 62 = .ok (.getfield 35, 3) := by decide +kernel
theorem dX7_goes_65 : decode cX7_goes 65 = .ok (.iload 5, 2) := by decide +kernel
theorem dX7_goes_67 : decode cX7_goes 67 = .ok (.bipush 40, 2) := by decide +kernel
theorem dX7_goes_69 : decode cX7_goes 69 = .ok (.iadd, 1) := by decide +kernel
theorem dX7_goes_70 : decode cX7_goes 70 = .ok (.iload_n 2, 1) := by decide +kernel
theorem dX7_goes_71 : decode cX7_goes 71 = .ok (.iadd, 1) := by decide +kernel
theorem dX7_goes_72 : decode cX7_goes 72 = .ok (.iaload, 1) := by decide +kernel
theorem dX7_goes_73 : decode cX7_goes 73 = .ok (.invokevirtual 138, 3) := by decide +kernel
theorem dX7_goes_76 : decode cX7_goes 76 = .ok (.iastore, 1) := by decide +kernel
theorem dX7_goes_77 : decode cX7_goes 77 = .ok (.aload_n 0, 1) := by decide +kernel
theorem dX7_goes_78 : decode cX7_goes 78 = .ok (.getfield 35, 3) := by decide +kernel
theorem dX7_goes_81 : decode cX7_goes 81 = .ok (.iload 5, 2) := by decide +kernel
theorem dX7_goes_83 : decode cX7_goes 83 = .ok (.bipush 44, 2) := by decide +kernel
theorem dX7_goes_85 : decode cX7_goes 85 = .ok (.iadd, 1) := by decide +kernel
theorem dX7_goes_86 : decode cX7_goes 86 = .ok (.dup2, 1) := by decide +kernel
theorem dX7_goes_87 : decode cX7_goes 87 = .ok (.iaload, 1) := by decide +kernel
theorem dX7_goes_88 : decode cX7_goes 88 = .ok (.iload 6, 2) := by decide +kernel
theorem dX7_goes_90 : decode cX7_goes 90 = .ok (.iadd, 1) := by decide +kernel
theorem dX7_goes_91 : decode cX7_goes 91 = .ok (.iastore, 1) := by decide +kernel
theorem dX7_goes_92 : decode cX7_goes 92 = .ok (.iload 6, 2) := by decide +kernel
theorem dX7_goes_94 : decode cX7_goes 94 = .ok (.ireturn, 1) := by decide +kernel
set_option maxRecDepth 20000 in
theorem ggX7_go_X7_isLodger : GoodIn wsX7_go wsX7_isLodger := goodIn_r _ [6, 7, 8, 9, 5, 10, 48, 49, 50, 51, 52, 53, 54, 55, 56, 57, 58, 59, 60, 61, 62, 63, 64, 65, 66] (by decide +kernel) (by decide +kernel)
set_option maxRecDepth 20000 in
theorem gX7_go_X7_isLodger : GoodIn wsX7_go (wsV RX7 123 RX7 yX7_isLodger wsX7_isLodger) := goodIn_app (goodIn_of _ (by decide +kernel)) ggX7_go_X7_isLodger
set_option maxRecDepth 20000 in
theorem ggX7_go_X7_isDoor : GoodIn wsX7_go wsX7_isDoor := goodIn_r _ [14, 15, 8, 9, 5, 10, 48, 49, 50, 51, 52, 53, 54, 55, 56, 57, 58, 59, 60, 61, 62, 63, 64, 65, 66] (by decide +kernel) (by decide +kernel)
set_option maxRecDepth 20000 in
theorem gX7_go_X7_isDoor : GoodIn wsX7_go (wsV RX7 118 RX7 yX7_isDoor wsX7_isDoor) := goodIn_app (goodIn_of _ (by decide +kernel)) ggX7_go_X7_isDoor
set_option maxRecDepth 20000 in
theorem ggX7_go_X7_isOf : GoodIn wsX7_go wsX7_isOf := goodIn_r _ [19, 20, 48, 49, 50, 51, 52, 53, 54, 55, 56, 57, 58, 59, 60, 61, 62, 63, 64, 65, 66] (by decide +kernel) (by decide +kernel)
set_option maxRecDepth 20000 in
theorem gX7_go_X7_isOf : GoodIn wsX7_go (wsV RX7 142 RX7 yX7_isOf wsX7_isOf) := goodIn_app (goodIn_of _ (by decide +kernel)) ggX7_go_X7_isOf
set_option maxRecDepth 20000 in
theorem ggX7_go_X7_known : GoodIn wsX7_go wsX7_known := goodIn_r _ [24, 25, 26, 27, 28, 5, 29, 1, 48, 49, 50, 51, 52, 53, 54, 55, 56, 57, 58, 59, 60, 61, 62, 63, 64, 65, 66] (by decide +kernel) (by decide +kernel)
set_option maxRecDepth 20000 in
theorem gX7_go_X7_known : GoodIn wsX7_go (wsV RX7 146 RX7 yX7_known wsX7_known) := goodIn_app (goodIn_of _ (by decide +kernel)) ggX7_go_X7_known
set_option maxRecDepth 20000 in
theorem ggX7_go_X7_goes : GoodIn wsX7_go wsX7_goes := goodIn_r _ [33, 1, 34, 35, 36, 5, 37, 38, 39, 40, 41, 42, 43, 44, 45, 46, 47, 20, 48, 49, 50, 51, 52, 53, 54, 55, 56, 57, 58, 59, 60, 61, 62, 63, 64, 65, 66] (by decide +kernel) (by decide +kernel)
set_option maxRecDepth 20000 in
theorem gX7_go_X7_goes : GoodIn wsX7_go (wsV RX7 149 RX7 yX7_goes wsX7_goes) := goodIn_app (goodIn_of _ (by decide +kernel)) ggX7_go_X7_goes
theorem dX7_go_0 : decode cX7_go 0 = .ok (.aload_n 0, 1) := by decide +kernel
theorem dX7_go_1 : decode cX7_go 1 = .ok (.iload_n 1, 1) := by decide +kernel
theorem dX7_go_2 : decode cX7_go 2 = .ok (.invokevirtual 123, 3) := by decide +kernel
theorem dX7_go_5 : decode cX7_go 5 = .ok (.ifCond .eq 11, 3) := by decide +kernel
theorem dX7_go_8 : decode cX7_go 8 = .ok (.aload_n 0, 1) := by decide +kernel
theorem dX7_go_9 : decode cX7_go 9 = .ok (.iload_n 2, 1) := by decide +kernel
theorem dX7_go_10 : decode cX7_go 10 = .ok (.invokevirtual 118, 3) := by decide +kernel
theorem dX7_go_13 : decode cX7_go 13 = .ok (.ifCond .ne 5, 3) := by decide +kernel
theorem dX7_go_16 : decode cX7_go 16 = .ok (.iconst (-1), 1) := by decide +kernel
theorem dX7_go_17 : decode cX7_go 17 = .ok (.ireturn, 1) := by decide +kernel
theorem dX7_go_18 : decode cX7_go 18 = .ok (.aload_n 0, 1) := by decide +kernel
theorem dX7_go_19 : decode cX7_go 19 = .ok (.iload_n 2, 1) := by decide +kernel
theorem dX7_go_20 : decode cX7_go 20 = .ok (.aload_n 0, 1) := by decide +kernel
theorem dX7_go_21 : decode cX7_go 21 = .ok (.getfield 35, 3) := by decide +kernel
theorem dX7_go_24 : decode cX7_go 24 = .ok (.bipush 40, 2) := by decide +kernel
theorem dX7_go_26 : decode cX7_go 26 = .ok (.iload_n 1, 1) := by decide +kernel
theorem dX7_go_27 : decode cX7_go 27 = .ok (.iadd, 1) := by decide +kernel
theorem dX7_go_28 : decode cX7_go 28 = .ok (.iaload, 1) := by decide +kernel
theorem dX7_go_29 : decode cX7_go 29 = .ok (.invokevirtual 142, 3) := by decide +kernel
theorem dX7_go_32 : decode cX7_go 32 = .ok (.ifCond .ne 6, 3) := by decide +kernel
theorem dX7_go_35 : decode cX7_go 35 = .ok (.bipush (-2), 2) := by decide +kernel
theorem dX7_go_37 : decode cX7_go 37 = .ok (.ireturn, 1) := by decide +kernel
theorem dX7_go_38 : decode cX7_go 38 = .ok (.aload_n 0, 1) := by decide +kernel
theorem dX7_go_39 : decode cX7_go 39 = .ok (.invokevirtual 146, 3) := by decide +kernel
theorem dX7_go_42 : decode cX7_go 42 = .ok (.aload_n 0, 1) := by decide +kernel
theorem dX7_go_43 : decode cX7_go 43 = .ok (.iconst 0, 1) := by decide +kernel
theorem dX7_go_44 : decode cX7_go 44 = .ok (.iload_n 1, 1) := by decide +kernel
theorem dX7_go_45 : decode cX7_go 45 = .ok (.iload_n 2, 1) := by decide +kernel
theorem dX7_go_46 : decode cX7_go 46 = .ok (.iload_n 3, 1) := by decide +kernel
theorem dX7_go_47 : decode cX7_go 47 = .ok (.invokevirtual 149, 3) := by decide +kernel
theorem dX7_go_50 : decode cX7_go 50 = .ok (.ireturn, 1) := by decide +kernel
set_option maxRecDepth 20000 in
theorem ggX7_oil_X7_isDoor : GoodIn wsX7_oil wsX7_isDoor := goodIn_r _ [8, 3, 9, 10, 7, 11, 21, 22, 23, 24, 25, 26, 27, 28, 29, 30, 31, 32, 33, 34, 35, 36, 37, 38, 39] (by decide +kernel) (by decide +kernel)
set_option maxRecDepth 20000 in
theorem gX7_oil_X7_isDoor : GoodIn wsX7_oil (wsV RX7 118 RX7 yX7_isDoor wsX7_isDoor) := goodIn_app (goodIn_of _ (by decide +kernel)) ggX7_oil_X7_isDoor
set_option maxRecDepth 20000 in
theorem ggX7_oil_X7_known : GoodIn wsX7_oil wsX7_known := goodIn_r _ [15, 16, 17, 18, 19, 7, 20, 1, 21, 22, 23, 24, 25, 26, 27, 28, 29, 30, 31, 32, 33, 34, 35, 36, 37, 38, 39] (by decide +kernel) (by decide +kernel)
set_option maxRecDepth 20000 in
theorem gX7_oil_X7_known : GoodIn wsX7_oil (wsV RX7 146 RX7 yX7_known wsX7_known) := goodIn_app (goodIn_of _ (by decide +kernel)) ggX7_oil_X7_known
theorem dX7_oil_0 : decode cX7_oil 0 = .ok (.aload_n 0, 1) := by decide +kernel
theorem dX7_oil_1 : decode cX7_oil 1 = .ok (.iload_n 1, 1) := by decide +kernel
theorem dX7_oil_2 : decode cX7_oil 2 = .ok (.invokevirtual 118, 3) := by decide +kernel
theorem dX7_oil_5 : decode cX7_oil 5 = .ok (.ifCond .ne 5, 3) := by decide +kernel
theorem dX7_oil_8 : decode cX7_oil 8 = .ok (.iconst (-1), 1) := by decide +kernel
theorem dX7_oil_9 : decode cX7_oil 9 = .ok (.ireturn, 1) := by decide +kernel
theorem dX7_oil_10 : decode cX7_oil 10 = .ok (.aload_n 0, 1) := by decide +kernel
theorem dX7_oil_11 : decode cX7_oil 11 = .ok (.invokevirtual 146, 3) := by decide +kernel
theorem dX7_oil_14 : decode cX7_oil 14 = .ok (.aload_n 0, 1) := by decide +kernel
theorem dX7_oil_15 : decode cX7_oil 15 = .ok (.getfield 35, 3) := by decide +kernel
theorem dX7_oil_18 : decode cX7_oil 18 = .ok (.bipush 32, 2) := by decide +kernel
theorem dX7_oil_20 : decode cX7_oil 20 = .ok (.iload_n 1, 1) := by decide +kernel
theorem dX7_oil_21 : decode cX7_oil 21 = .ok (.iadd, 1) := by decide +kernel
theorem dX7_oil_22 : decode cX7_oil 22 = .ok (.aload_n 0, 1) := by decide +kernel
theorem dX7_oil_23 : decode cX7_oil 23 = .ok (.getfield 13, 3) := by decide +kernel
theorem dX7_oil_26 : decode cX7_oil 26 = .ok (.iconst 4, 1) := by decide +kernel
theorem dX7_oil_27 : decode cX7_oil 27 = .ok (.iaload, 1) := by decide +kernel
theorem dX7_oil_28 : decode cX7_oil 28 = .ok (.iastore, 1) := by decide +kernel
theorem dX7_oil_29 : decode cX7_oil 29 = .ok (.iconst 0, 1) := by decide +kernel
theorem dX7_oil_30 : decode cX7_oil 30 = .ok (.istore_n 2, 1) := by decide +kernel
theorem dX7_oil_31 : decode cX7_oil 31 = .ok (.iconst 0, 1) := by decide +kernel
theorem dX7_oil_32 : decode cX7_oil 32 = .ok (.istore_n 3, 1) := by decide +kernel
theorem dX7_oil_33 : decode cX7_oil 33 = .ok (.iload_n 3, 1) := by decide +kernel
theorem dX7_oil_34 : decode cX7_oil 34 = .ok (.aload_n 0, 1) := by decide +kernel
theorem dX7_oil_35 : decode cX7_oil 35 = .ok (.getfield 17, 3) := by decide +kernel
theorem dX7_oil_38 : decode cX7_oil 38 = .ok (.iconst 0, 1) := by decide +kernel
theorem dX7_oil_39 : decode cX7_oil 39 = .ok (.iaload, 1) := by decide +kernel
theorem dX7_oil_40 : decode cX7_oil 40 = .ok (.if_icmp .ge 29, 3) := by decide +kernel
theorem dX7_oil_43 : decode cX7_oil 43 = .ok (.iload_n 2, 1) := by decide +kernel
theorem dX7_oil_44 : decode cX7_oil 44 = .ok (.aload_n 0, 1) := by decide +kernel
theorem dX7_oil_45 : decode cX7_oil 45 = .ok (.getfield 35, 3) := by decide +kernel
theorem dX7_oil_48 : decode cX7_oil 48 = .ok (.bipush 32, 2) := by decide +kernel
theorem dX7_oil_50 : decode cX7_oil 50 = .ok (.iload_n 3, 1) := by decide +kernel
theorem dX7_oil_51 : decode cX7_oil 51 = .ok (.iadd, 1) := by decide +kernel
theorem dX7_oil_52 : decode cX7_oil 52 = .ok (.iaload, 1) := by decide +kernel
theorem dX7_oil_53 : decode cX7_oil 53 = .ok (.ifCond .le 7, 3) := by decide +kernel
theorem dX7_oil_56 : decode cX7_oil 56 = .ok (.iconst 1, 1) := by decide +kernel
theorem dX7_oil_57 : decode cX7_oil 57 = .ok (.goto 4, 3) := by decide +kernel
theorem dX7_oil_60 : decode cX7_oil 60 = .ok (.iconst 0, 1) := by decide +kernel
theorem dX7_oil_61 : decode cX7_oil 61 = .ok (.iadd, 1) := by decide +kernel
theorem dX7_oil_62 : decode cX7_oil 62 = .ok (.istore_n 2, 1) := by decide +kernel
theorem dX7_oil_63 : decode cX7_oil 63 = .ok (.iinc 3 1, 3) := by decide +kernel
theorem dX7_oil_66 : decode cX7_oil 66 = .ok (.goto (-33), 3) := by decide +kernel
theorem dX7_oil_69 : decode cX7_oil 69 = .ok (.iload_n 2, 1) := by decide +kernel
theorem dX7_oil_70 : decode cX7_oil 70 = .ok (.ireturn, 1) := by decide +kernel
theorem dX7_nights_0 : decode cX7_nights 0 = .ok (.bipush 46, 2) := by decide +kernel
theorem dX7_nights_2 : decode cX7_nights 2 = .ok (.iload_n 1, 1) := by decide +kernel
theorem dX7_nights_3 : decode cX7_nights 3 = .ok (.imul, 1) := by decide +kernel
theorem dX7_nights_4 : decode cX7_nights 4 = .ok (.istore_n 2, 1) := by decide +kernel
theorem dX7_nights_5 : decode cX7_nights 5 = .ok (.iconst 0, 1) := by decide +kernel
theorem dX7_nights_6 : decode cX7_nights 6 = .ok (.istore_n 3, 1) := by decide +kernel
theorem dX7_nights_7 : decode cX7_nights 7 = .ok (.iload_n 3, 1) := by decide +kernel
theorem dX7_nights_8 : decode cX7_nights 8 = .ok (.bipush 32, 2) := by decide +kernel
theorem dX7_nights_10 : decode cX7_nights 10 = .ok (.if_icmp .ge 23, 3) := by decide +kernel
theorem dX7_nights_13 : decode cX7_nights 13 = .ok (.aload_n 0, 1) := by decide +kernel
theorem dX7_nights_14 : decode cX7_nights 14 = .ok (.getfield 38, 3) := by decide +kernel
theorem dX7_nights_17 : decode cX7_nights 17 = .ok (.iload_n 3, 1) := by decide +kernel
theorem dX7_nights_18 : decode cX7_nights 18 = .ok (.aload_n 0, 1) := by decide +kernel
theorem dX7_nights_19 : decode cX7_nights 19 = .ok (.getfield 35, 3) := by decide +kernel
theorem dX7_nights_22 : decode cX7_nights 22 = .ok (.iload_n 2, 1) := by decide +kernel
theorem dX7_nights_23 : decode cX7_nights 23 = .ok (.iload_n 3, 1) := by decide +kernel
theorem dX7_nights_24 : decode cX7_nights 24 = .ok (.iadd, 1) := by decide +kernel
theorem dX7_nights_25 : decode cX7_nights 25 = .ok (.iaload, 1) := by decide +kernel
theorem dX7_nights_26 : decode cX7_nights 26 = .ok (.iastore, 1) := by decide +kernel
theorem dX7_nights_27 : decode cX7_nights 27 = .ok (.iinc 3 1, 3) := by decide +kernel
theorem dX7_nights_30 : decode cX7_nights 30 = .ok (.goto (-23), 3) := by decide +kernel
theorem dX7_nights_33 : decode cX7_nights 33 = .ok (.iconst 0, 1) := by decide +kernel
theorem dX7_nights_34 : decode cX7_nights 34 = .ok (.istore_n 3, 1) := by decide +kernel
theorem dX7_nights_35 : decode cX7_nights 35 = .ok (.iload_n 3, 1) := by decide +kernel
theorem dX7_nights_36 : decode cX7_nights 36 = .ok (.aload_n 0, 1) := by decide +kernel
theorem dX7_nights_37 : decode cX7_nights 37 = .ok (.getfield 17, 3) := by decide +kernel
theorem dX7_nights_40 : decode cX7_nights 40 = .ok (.iconst 0, 1) := by decide +kernel
theorem dX7_nights_41 : decode cX7_nights 41 = .ok (.iaload, 1) := by decide +kernel
theorem dX7_nights_42 : decode cX7_nights 42 = .ok (.if_icmp .ge 148, 3) := by decide +kernel
theorem dX7_nights_45 : decode cX7_nights 45 = .ok (.aload_n 0, 1) := by decide +kernel
theorem dX7_nights_46 : decode cX7_nights 46 = .ok (.getfield 20, 3) := by decide +kernel
theorem dX7_nights_49 : decode cX7_nights 49 = .ok (.iconst 3, 1) := by decide +kernel
theorem dX7_nights_50 : decode cX7_nights 50 = .ok (.iload_n 3, 1) := by decide +kernel
theorem dX7_nights_51 : decode cX7_nights 51 = .ok (.imul, 1) := by decide +kernel
theorem dX7_nights_52 : decode cX7_nights 52 = .ok (.iconst 2, 1) := by decide +kernel
theorem dX7_nights_53 : decode cX7_nights 53 = .ok (.iadd, 1) := by decide +kernel
theorem dX7_nights_54 : decode cX7_nights 54 = .ok (.iaload, 1) := by decide +kernel
theorem dX7_nights_55 : decode cX7_nights 55 = .ok (.istore 4, 2) := by decide +kernel
theorem dX7_nights_57 : decode cX7_nights 57 = .ok (.iload 4, 2) := by decide +kernel
theorem dX7_nights_59 : decode cX7_nights 59 = .ok (.iload_n 3, 1) := by decide +kernel
theorem dX7_nights_60 : decode cX7_nights 60 = .ok (.if_icmp .eq 36, 3) := by decide +kernel
theorem dX7_nights_63 : decode cX7_nights 63 = .ok (.aload_n 0, 1) := by decide +kernel
theorem dX7_nights_64 : decode cX7_nights 64 = .ok (.getfield 35, 3) := by decide +kernel
theorem dX7_nights_67 : decode cX7_nights 67 = .ok (.iload_n 2, 1) := by decide +kernel
theorem dX7_nights_68 : decode cX7_nights 68 = .ok (.bipush 32, 2) := by decide +kernel
theorem dX7_nights_70 : decode cX7_nights 70 = .ok (.iadd, 1) := by decide +kernel
theorem dX7_nights_71 : decode cX7_nights 71 = .ok (.iload_n 3, 1) := by decide +kernel
theorem dX7_nights_72 : decode cX7_nights 72 = .ok (.iadd, 1) := by decide +kernel
theorem dX7_nights_73 : decode cX7_nights 73 = .ok (.iaload, 1) := by decide +kernel
theorem dX7_nights_74 : decode cX7_nights 74 = .ok (.ifCond .ne 22, 3) := by decide +kernel
theorem dX7_nights_77 : decode cX7_nights 77 = .ok (.aload_n 0, 1) := by decide +kernel
theorem dX7_nights_78 : decode cX7_nights 78 = .ok (.getfield 35, 3) := by decide +kernel
theorem dX7_nights_81 : decode cX7_nights 81 = .ok (.iload_n 2, 1) := by decide +kernel
theorem dX7_nights_82 : decode cX7_nights 82 = .ok (.bipush 32, 2) := by decide +kernel
theorem dX7_nights_84 : decode cX7_nights 84 = .ok (.iadd, 1) := by decide +kernel
theorem dX7_nights_85 : decode cX7_nights 85 = .ok (.iload 4, 2) := by decide +kernel
theorem dX7_nights_87 : decode cX7_nights 87 = .ok (.iadd, 1) := by decide +kernel
theorem dX7_nights_88 : decode cX7_nights 88 = .ok (.iaload, 1) := by decide +kernel
theorem dX7_nights_89 : decode cX7_nights 89 = .ok (.ifCond .ne 7, 3) := by decide +kernel
theorem dX7_nights_92 : decode cX7_nights 92 = .ok (.iconst 1, 1) := by decide +kernel
theorem dX7_nights_93 : decode cX7_nights 93 = .ok (.goto 4, 3) := by decide +kernel
theorem dX7_nights_96 : decode cX7_nights 96 = .ok (.iconst 0, 1) := by decide +kernel
theorem dX7_nights_97 : decode cX7_nights 97 = .ok (.istore 5, 2) := by decide +kernel
theorem dX7_nights_99 : decode cX7_nights 99 = .ok (.iconst 0, 1) := by decide +kernel
theorem dX7_nights_100 : decode cX7_nights 100 = .ok (.istore 6, 2) := by decide +kernel
theorem dX7_nights_102 : decode cX7_nights 102 = .ok (.iload 6, 2) := by decide +kernel
theorem dX7_nights_104 : decode cX7_nights 104 = .ok (.aload_n 0, 1) := by decide +kernel
theorem dX7_nights_105 : decode cX7_nights 105 = .ok (.getfield 26, 3) := by decide +kernel
theorem dX7_nights_108 : decode cX7_nights 108 = .ok (.iconst 0, 1) := by decide +kernel
theorem dX7_nights_109 : decode cX7_nights 109 = .ok (.iaload, 1) := by decide +kernel
theorem dX7_nights_110 : decode cX7_nights 110 = .ok (.if_icmp .ge 74, 3) := by decide +kernel
theorem dX7_nights_113 : decode cX7_nights 113 = .ok (.iload 5, 2) := by decide +kernel
theorem dX7_nights_115 : decode cX7_nights 115 = .ok (.ifCond .eq 69, 3) := by decide +kernel
theorem dX7_nights_118 : decode cX7_nights 118 = .ok (.aload_n 0, 1) := by decide +kernel
theorem dX7_nights_119 : decode cX7_nights 119 = .ok (.getfield 38, 3) := by decide +kernel
theorem dX7_nights_122 : decode cX7_nights 122 = .ok (.iconst 4, 1) := by decide +kernel
theorem dX7_nights_123 : decode cX7_nights 123 = .ok (.iload_n 3, 1) := by decide +kernel
theorem dX7_nights_124 : decode cX7_nights 124 = .ok (.imul, 1) := by decide +kernel
theorem dX7_nights_125 : decode cX7_nights 125 = .ok (.iload 6, 2) := by decide +kernel
theorem dX7_nights_127 : decode cX7_nights 127 = .ok (.iadd, 1) := by decide +kernel
theorem dX7_nights_128 : decode cX7_nights 128 = .ok (.iaload, 1) := by decide +kernel
theorem dX7_nights_129 : decode cX7_nights 129 = .ok (.aload_n 0, 1) := by decide +kernel
theorem dX7_nights_130 : decode cX7_nights 130 = .ok (.getfield 13, 3) := by decide +kernel
theorem dX7_nights_133 : decode cX7_nights 133 = .ok (.iconst 1, 1) := by decide +kernel
theorem dX7_nights_134 : decode cX7_nights 134 = .ok (.iaload, 1) := by decide +kernel
theorem dX7_nights_135 : decode cX7_nights 135 = .ok (.imul, 1) := by decide +kernel
theorem dX7_nights_136 : decode cX7_nights 136 = .ok (.bipush 10, 2) := by decide +kernel
theorem dX7_nights_138 : decode cX7_nights 138 = .ok (.idiv, 1) := by decide +kernel
theorem dX7_nights_139 : decode cX7_nights 139 = .ok (.istore 7, 2) := by decide +kernel
theorem dX7_nights_141 : decode cX7_nights 141 = .ok (.aload_n 0, 1) := by decide +kernel
theorem dX7_nights_142 : decode cX7_nights 142 = .ok (.getfield 35, 3) := by decide +kernel
theorem dX7_nights_145 : decode cX7_nights 145 = .ok (.iload_n 2, 1) := by decide +kernel
theorem dX7_nights_146 : decode cX7_nights 146 = .ok (.iconst 4, 1) := by decide +kernel
theorem dX7_nights_147 : decode cX7_nights 147 = .ok (.iload_n 3, 1) := by decide +kernel
theorem dX7_nights_148 : decode cX7_nights 148 = .ok (.imul, 1) := by decide +kernel
theorem dX7_nights_149 : decode cX7_nights 149 = .ok (.iadd, 1) := by decide +kernel
theorem dX7_nights_150 : decode cX7_nights 150 = .ok (.iload 6, 2) := by decide +kernel
theorem dX7_nights_152 : decode cX7_nights 152 = .ok (.iadd, 1) := by decide +kernel
theorem dX7_nights_153 : decode cX7_nights 153 = .ok (.dup2, 1) := by decide +kernel
theorem dX7_nights_154 : decode cX7_nights 154 = .ok (.iaload, 1) := by decide +kernel
theorem dX7_nights_155 : decode cX7_nights 155 = .ok (.iload 7, 2) := by decide +kernel
theorem dX7_nights_157 : decode cX7_nights 157 = .ok (.isub, 1) := by decide +kernel
theorem dX7_nights_158 : decode cX7_nights 158 = .ok (.iastore, 1) := by decide +kernel
theorem dX7_nights_159 : decode cX7_nights 159 = .ok (.aload_n 0, 1) := by decide +kernel
theorem dX7_nights_160 : decode cX7_nights 160 = .ok (.getfield 35, 3) := by decide +kernel
theorem dX7_nights_163 : decode cX7_nights 163 = .ok (.iload_n 2, 1) := by decide +kernel
theorem dX7_nights_164 : decode cX7_nights 164 = .ok (.iconst 4, 1) := by decide +kernel
theorem dX7_nights_165 : decode cX7_nights 165 = .ok (.iload 4, 2) := by decide +kernel
theorem dX7_nights_167 : decode cX7_nights 167 = .ok (.imul, 1) := by decide +kernel
theorem dX7_nights_168 : decode cX7_nights 168 = .ok (.iadd, 1) := by decide +kernel
theorem dX7_nights_169 : decode cX7_nights 169 = .ok (.iload 6, 2) := by decide +kernel
theorem dX7_nights_171 : decode cX7_nights 171 = .ok (.iadd, 1) := by decide +kernel
theorem dX7_nights_172 : decode cX7_nights 172 = .ok (.dup2, 1) := by decide +kernel
theorem dX7_nights_173 : decode cX7_nights 173 = .ok (.iaload, 1) := by decide +kernel
theorem dX7_nights_174 : decode cX7_nights 174 = .ok (.iload 7, 2) := by decide +kernel
theorem dX7_nights_176 : decode cX7_nights 176 = .ok (.iadd, 1) := by decide +kernel
theorem dX7_nights_177 : decode cX7_nights 177 = .ok (.iastore, 1) := by decide +kernel
theorem dX7_nights_178 : decode cX7_nights 178 = .ok (.iinc 6 1, 3) := by decide +kernel
theorem dX7_nights_181 : decode cX7_nights 181 = .ok (.goto (-79), 3) := by decide +kernel
theorem dX7_nights_184 : decode cX7_nights 184 = .ok (.iinc 3 1, 3) := by decide +kernel
theorem dX7_nights_187 : decode cX7_nights 187 = .ok (.goto (-152), 3) := by decide +kernel
theorem dX7_nights_190 : decode cX7_nights 190 = .ok (.iconst 0, 1) := by decide +kernel
theorem dX7_nights_191 : decode cX7_nights 191 = .ok (.istore_n 3, 1) := by decide +kernel
theorem dX7_nights_192 : decode cX7_nights 192 = .ok (.iload_n 3, 1) := by decide +kernel
theorem dX7_nights_193 : decode cX7_nights 193 = .ok (.aload_n 0, 1) := by decide +kernel
theorem dX7_nights_194 : decode cX7_nights 194 = .ok (.getfield 17, 3) := by decide +kernel
theorem dX7_nights_197 : decode cX7_nights 197 = .ok (.iconst 0, 1) := by decide +kernel
theorem dX7_nights_198 : decode cX7_nights 198 = .ok (.iaload, 1) := by decide +kernel
theorem dX7_nights_199 : decode cX7_nights 199 = .ok (.if_icmp .ge 131, 3) := by decide +kernel
theorem dX7_nights_202 : decode cX7_nights 202 = .ok (.iconst 0, 1) := by decide +kernel
theorem dX7_nights_203 : decode cX7_nights 203 = .ok (.istore 4, 2) := by decide +kernel
theorem dX7_nights_205 : decode cX7_nights 205 = .ok (.iload 4, 2) := by decide +kernel
theorem dX7_nights_207 : decode cX7_nights 207 = .ok (.aload_n 0, 1) := by decide +kernel
theorem dX7_nights_208 : decode cX7_nights 208 = .ok (.getfield 26, 3) := by decide +kernel
theorem dX7_nights_211 : decode cX7_nights 211 = .ok (.iconst 0, 1) := by decide +kernel
theorem dX7_nights_212 : decode cX7_nights 212 = .ok (.iaload, 1) := by decide +kernel
theorem dX7_nights_213 : decode cX7_nights 213 = .ok (.if_icmp .ge 78, 3) := by decide +kernel
theorem dX7_nights_216 : decode cX7_nights 216 = .ok (.aload_n 0, 1) := by decide +kernel
theorem dX7_nights_217 : decode cX7_nights 217 = .ok (.getfield 35, 3) := by decide +kernel
theorem dX7_nights_220 : decode cX7_nights 220 = .ok (.iload_n 2, 1) := by decide +kernel
theorem dX7_nights_221 : decode cX7_nights 221 = .ok (.iconst 4, 1) := by decide +kernel
theorem dX7_nights_222 : decode cX7_nights 222 = .ok (.iload_n 3, 1) := by decide +kernel
theorem dX7_nights_223 : decode cX7_nights 223 = .ok (.imul, 1) := by decide +kernel
theorem dX7_nights_224 : decode cX7_nights 224 = .ok (.iadd, 1) := by decide +kernel
theorem dX7_nights_225 : decode cX7_nights 225 = .ok (.iload 4, 2) := by decide +kernel
theorem dX7_nights_227 : decode cX7_nights 227 = .ok (.iadd, 1) := by decide +kernel
theorem dX7_nights_228 : decode cX7_nights 228 = .ok (.iaload, 1) := by decide +kernel
theorem dX7_nights_229 : decode cX7_nights 229 = .ok (.aload_n 0, 1) := by decide +kernel
theorem dX7_nights_230 : decode cX7_nights 230 = .ok (.getfield 13, 3) := by decide +kernel
theorem dX7_nights_233 : decode cX7_nights 233 = .ok (.iconst 2, 1) := by decide +kernel
theorem dX7_nights_234 : decode cX7_nights 234 = .ok (.iaload, 1) := by decide +kernel
theorem dX7_nights_235 : decode cX7_nights 235 = .ok (.isub, 1) := by decide +kernel
theorem dX7_nights_236 : decode cX7_nights 236 = .ok (.istore 5, 2) := by decide +kernel
theorem dX7_nights_238 : decode cX7_nights 238 = .ok (.iload 5, 2) := by decide +kernel
theorem dX7_nights_240 : decode cX7_nights 240 = .ok (.ifCond .ge 7, 3) := by decide +kernel
theorem dX7_nights_243 : decode cX7_nights 243 = .ok (.iconst 0, 1) := by decide +kernel
theorem dX7_nights_244 : decode cX7_nights 244 = .ok (.goto 5, 3) := by decide +kernel
theorem dX7_nights_247 : decode cX7_nights 247 = .ok (.iload 5, 2) := by decide +kernel
theorem dX7_nights_249 : decode cX7_nights 249 = .ok (.aload_n 0, 1) := by decide +kernel
theorem dX7_nights_250 : decode cX7_nights 250 = .ok (.getfield 23, 3) := by decide +kernel
theorem dX7_nights_253 : decode cX7_nights 253 = .ok (.iload_n 3, 1) := by decide +kernel
theorem dX7_nights_254 : decode cX7_nights 254 = .ok (.iaload, 1) := by decide +kernel
theorem dX7_nights_255 : decode cX7_nights 255 = .ok (.iadd, 1) := by decide +kernel
theorem dX7_nights_256 : decode cX7_nights 256 = .ok (.istore 5, 2) := by decide +kernel
theorem dX7_nights_258 : decode cX7_nights 258 = .ok (.aload_n 0, 1) := by decide +kernel
theorem dX7_nights_259 : decode cX7_nights 259 = .ok (.getfield 35, 3) := by decide +kernel
theorem dX7_nights_262 : decode cX7_nights 262 = .ok (.iload_n 2, 1) := by decide +kernel
theorem dX7_nights_263 : decode cX7_nights 263 = .ok (.iconst 4, 1) := by decide +kernel
theorem dX7_nights_264 : decode cX7_nights 264 = .ok (.iload_n 3, 1) := by decide +kernel
theorem dX7_nights_265 : decode cX7_nights 265 = .ok (.imul, 1) := by decide +kernel
theorem dX7_nights_266 : decode cX7_nights 266 = .ok (.iadd, 1) := by decide +kernel
theorem dX7_nights_267 : decode cX7_nights 267 = .ok (.iload 4, 2) := by decide +kernel
theorem dX7_nights_269 : decode cX7_nights 269 = .ok (.iadd, 1) := by decide +kernel
theorem dX7_nights_270 : decode cX7_nights 270 = .ok (.iload 5, 2) := by decide +kernel
theorem dX7_nights_272 : decode cX7_nights 272 = .ok (.bipush 99, 2) := by decide +kernel
theorem dX7_nights_274 : decode cX7_nights 274 = .ok (.if_icmp .le 8, 3) := by decide +kernel
theorem dX7_nights_277 : decode cX7_nights 277 = .ok (.bipush 99, 2) := by decide +kernel
theorem dX7_nights_279 : decode cX7_nights 279 = .ok (.goto 5, 3) := by decide +kernel
theorem dX7_nights_282 : decode cX7_nights 282 = .ok (.iload 5, 2) := by decide +kernel
theorem dX7_nights_284 : decode cX7_nights 284 = .ok (.iastore, 1) := by decide +kernel
theorem dX7_nights_285 : decode cX7_nights 285 = .ok (.iinc 4 1, 3) := by decide +kernel
theorem dX7_nights_288 : decode cX7_nights 288 = .ok (.goto (-83), 3) := by decide +kernel
theorem dX7_nights_291 : decode cX7_nights 291 = .ok (.aload_n 0, 1) := by decide +kernel
theorem dX7_nights_292 : decode cX7_nights 292 = .ok (.getfield 35, 3) := by decide +kernel
theorem dX7_nights_295 : decode cX7_nights 295 = .ok (.iload_n 2, 1) := by decide +kernel
theorem dX7_nights_296 : decode cX7_nights 296 = .ok (.bipush 32, 2) := by decide +kernel
theorem dX7_nights_298 : decode cX7_nights 298 = .ok (.iadd, 1) := by decide +kernel
theorem dX7_nights_299 : decode cX7_nights 299 = .ok (.iload_n 3, 1) := by decide +kernel
theorem dX7_nights_300 : decode cX7_nights 300 = .ok (.iadd, 1) := by decide +kernel
theorem dX7_nights_301 : decode cX7_nights 301 = .ok (.dup2, 1) := by decide +kernel
theorem dX7_nights_302 : decode cX7_nights 302 = .ok (.iaload, 1) := by decide +kernel
theorem dX7_nights_303 : decode cX7_nights 303 = .ok (.aload_n 0, 1) := by decide +kernel
theorem dX7_nights_304 : decode cX7_nights 304 = .ok (.getfield 35, 3) := by decide +kernel
theorem dX7_nights_307 : decode cX7_nights 307 = .ok (.iload_n 2, 1) := by decide +kernel
theorem dX7_nights_308 : decode cX7_nights 308 = .ok (.bipush 32, 2) := by decide +kernel
theorem dX7_nights_310 : decode cX7_nights 310 = .ok (.iadd, 1) := by decide +kernel
theorem dX7_nights_311 : decode cX7_nights 311 = .ok (.iload_n 3, 1) := by decide +kernel
theorem dX7_nights_312 : decode cX7_nights 312 = .ok (.iadd, 1) := by decide +kernel
theorem dX7_nights_313 : decode cX7_nights 313 = .ok (.iaload, 1) := by decide +kernel
theorem dX7_nights_314 : decode cX7_nights 314 = .ok (.ifCond .le 7, 3) := by decide +kernel
theorem dX7_nights_317 : decode cX7_nights 317 = .ok (.iconst 1, 1) := by decide +kernel
theorem dX7_nights_318 : decode cX7_nights 318 = .ok (.goto 4, 3) := by decide +kernel
theorem dX7_nights_321 : decode cX7_nights 321 = .ok (.iconst 0, 1) := by decide +kernel
theorem dX7_nights_322 : decode cX7_nights 322 = .ok (.isub, 1) := by decide +kernel
theorem dX7_nights_323 : decode cX7_nights 323 = .ok (.iastore, 1) := by decide +kernel
theorem dX7_nights_324 : decode cX7_nights 324 = .ok (.iinc 3 1, 3) := by decide +kernel
theorem dX7_nights_327 : decode cX7_nights 327 = .ok (.goto (-135), 3) := by decide +kernel
theorem dX7_nights_330 : decode cX7_nights 330 = .ok (.aload_n 0, 1) := by decide +kernel
theorem dX7_nights_331 : decode cX7_nights 331 = .ok (.getfield 35, 3) := by decide +kernel
theorem dX7_nights_334 : decode cX7_nights 334 = .ok (.iload_n 2, 1) := by decide +kernel
theorem dX7_nights_335 : decode cX7_nights 335 = .ok (.bipush 45, 2) := by decide +kernel
theorem dX7_nights_337 : decode cX7_nights 337 = .ok (.iadd, 1) := by decide +kernel
theorem dX7_nights_338 : decode cX7_nights 338 = .ok (.dup2, 1) := by decide +kernel
theorem dX7_nights_339 : decode cX7_nights 339 = .ok (.iaload, 1) := by decide +kernel
theorem dX7_nights_340 : decode cX7_nights 340 = .ok (.iconst 1, 1) := by decide +kernel
theorem dX7_nights_341 : decode cX7_nights 341 = .ok (.iadd, 1) := by decide +kernel
theorem dX7_nights_342 : decode cX7_nights 342 = .ok (.iastore, 1) := by decide +kernel
theorem dX7_nights_343 : decode cX7_nights 343 = .ok (.return_, 1) := by decide +kernel
set_option maxRecDepth 20000 in
theorem ggX7_night_X7_in : GoodIn wsX7_night wsX7_in := goodIn_r _ [6] (by decide +kernel) (by decide +kernel)
set_option maxRecDepth 20000 in
theorem gX7_night_X7_in : GoodIn wsX7_night (va_wsS RX7 61 yX7_in wsX7_in) := goodIn_app (goodIn_of _ (by decide +kernel)) ggX7_night_X7_in
set_option maxRecDepth 20000 in
theorem ggX7_night_X7_known : GoodIn wsX7_night wsX7_known := goodIn_r _ [10, 11, 12, 13, 14, 5, 15, 2, 26, 27, 28, 29, 30, 31, 32, 33, 34, 35, 36, 37, 38, 39, 40, 41, 42, 43, 44] (by decide +kernel) (by decide +kernel)
set_option maxRecDepth 20000 in
theorem gX7_night_X7_known : GoodIn wsX7_night (wsV RX7 146 RX7 yX7_known wsX7_known) := goodIn_app (goodIn_of _ (by decide +kernel)) ggX7_night_X7_known
set_option maxRecDepth 20000 in
theorem ggX7_night_X7_nights : GoodIn wsX7_night wsX7_nights := goodIn_r _ [19, 20, 2, 21, 22, 23, 24, 25, 26, 27, 28, 29, 30, 31, 32, 33, 34, 35, 36, 37, 38, 39, 40, 41, 42, 43, 44] (by decide +kernel) (by decide +kernel)
set_option maxRecDepth 20000 in
theorem gX7_night_X7_nights : GoodIn wsX7_night (wsV RX7 155 RX7 yX7_nights wsX7_nights) := goodIn_app (goodIn_of _ (by decide +kernel)) ggX7_night_X7_nights
theorem dX7_night_0 : decode cX7_night 0 = .ok (.iload_n 1, 1) := by decide +kernel
theorem dX7_night_1 : decode cX7_night 1 = .ok (.i2l, 1) := by decide +kernel
theorem dX7_night_2 : decode cX7_night 2 = .ok (.lconst 1, 1) := by decide +kernel
theorem dX7_night_3 : decode cX7_night 3 = .ok (.ldc2_w 153, 3) := by decide +kernel
theorem dX7_night_6 : decode cX7_night 6 = .ok (.invokestatic 61, 3) := by decide +kernel
theorem dX7_night_9 : decode cX7_night 9 = .ok (.ifCond .ne 5, 3) := by decide +kernel
theorem dX7_night_12 : decode cX7_night 12 = .ok (.iconst (-1), 1) := by decide +kernel
theorem dX7_night_13 : decode cX7_night 13 = .ok (.ireturn, 1) := by decide +kernel
theorem dX7_night_14 : decode cX7_night 14 = .ok (.aload_n 0, 1) := by decide +kernel
theorem dX7_night_15 : decode cX7_night 15 = .ok (.getfield 35, 3) := by decide +kernel
theorem dX7_night_18 : decode cX7_night 18 = .ok (.bipush 45, 2) := by decide +kernel
theorem dX7_night_20 : decode cX7_night 20 = .ok (.iaload, 1) := by decide +kernel
theorem dX7_night_21 : decode cX7_night 21 = .ok (.iload_n 1, 1) := by decide +kernel
theorem dX7_night_22 : decode cX7_night 22 = .ok (.iadd, 1) := by decide +kernel
theorem dX7_night_23 : decode cX7_night 23 = .ok (.sipush 9999, 3) := by decide +kernel
theorem dX7_night_26 : decode cX7_night 26 = .ok (.if_icmp .le 6, 3) := by decide +kernel
theorem dX7_night_29 : decode cX7_night 29 = .ok (.bipush (-2), 2) := by decide +kernel
theorem dX7_night_31 : decode cX7_night 31 = .ok (.ireturn, 1) := by decide +kernel
theorem dX7_night_32 : decode cX7_night 32 = .ok (.aload_n 0, 1) := by decide +kernel
theorem dX7_night_33 : decode cX7_night 33 = .ok (.invokevirtual 146, 3) := by decide +kernel
theorem dX7_night_36 : decode cX7_night 36 = .ok (.iconst 0, 1) := by decide +kernel
theorem dX7_night_37 : decode cX7_night 37 = .ok (.istore_n 2, 1) := by decide +kernel
theorem dX7_night_38 : decode cX7_night 38 = .ok (.iload_n 2, 1) := by decide +kernel
theorem dX7_night_39 : decode cX7_night 39 = .ok (.iload_n 1, 1) := by decide +kernel
theorem dX7_night_40 : decode cX7_night 40 = .ok (.if_icmp .ge 14, 3) := by decide +kernel
theorem dX7_night_43 : decode cX7_night 43 = .ok (.aload_n 0, 1) := by decide +kernel
theorem dX7_night_44 : decode cX7_night 44 = .ok (.iconst 0, 1) := by decide +kernel
theorem dX7_night_45 : decode cX7_night 45 = .ok (.invokevirtual 155, 3) := by decide +kernel
theorem dX7_night_48 : decode cX7_night 48 = .ok (.iinc 2 1, 3) := by decide +kernel
theorem dX7_night_51 : decode cX7_night 51 = .ok (.goto (-13), 3) := by decide +kernel
theorem dX7_night_54 : decode cX7_night 54 = .ok (.aload_n 0, 1) := by decide +kernel
theorem dX7_night_55 : decode cX7_night 55 = .ok (.getfield 35, 3) := by decide +kernel
theorem dX7_night_58 : decode cX7_night 58 = .ok (.bipush 45, 2) := by decide +kernel
theorem dX7_night_60 : decode cX7_night 60 = .ok (.iaload, 1) := by decide +kernel
theorem dX7_night_61 : decode cX7_night 61 = .ok (.ireturn, 1) := by decide +kernel
set_option maxRecDepth 20000 in
theorem ggX7_undo_X7_copies : GoodIn wsX7_undo wsX7_copies := goodIn_r _ [6, 7, 8, 9, 10, 11, 12, 13, 14, 15, 16, 17, 18, 19, 20, 21, 22, 23, 24, 25, 26] (by decide +kernel) (by decide +kernel)
set_option maxRecDepth 20000 in
theorem gX7_undo_X7_copies : GoodIn wsX7_undo (wsV RX7 126 RX7 yX7_copies wsX7_copies) := goodIn_app (goodIn_of _ (by decide +kernel)) ggX7_undo_X7_copies
theorem dX7_undo_0 : decode cX7_undo 0 = .ok (.aload_n 0, 1) := by decide +kernel
theorem dX7_undo_1 : decode cX7_undo 1 = .ok (.getfield 103, 3) := by decide +kernel
theorem dX7_undo_4 : decode cX7_undo 4 = .ok (.ifCond .ne 6, 3) := by decide +kernel
theorem dX7_undo_7 : decode cX7_undo 7 = .ok (.bipush (-2), 2) := by decide +kernel
theorem dX7_undo_9 : decode cX7_undo 9 = .ok (.ireturn, 1) := by decide +kernel
theorem dX7_undo_10 : decode cX7_undo 10 = .ok (.aload_n 0, 1) := by decide +kernel
theorem dX7_undo_11 : decode cX7_undo 11 = .ok (.dup, 1) := by decide +kernel
theorem dX7_undo_12 : decode cX7_undo 12 = .ok (.getfield 103, 3) := by decide +kernel
theorem dX7_undo_15 : decode cX7_undo 15 = .ok (.iconst 1, 1) := by decide +kernel
theorem dX7_undo_16 : decode cX7_undo 16 = .ok (.isub, 1) := by decide +kernel
theorem dX7_undo_17 : decode cX7_undo 17 = .ok (.putfield 103, 3) := by decide +kernel
theorem dX7_undo_20 : decode cX7_undo 20 = .ok (.aload_n 0, 1) := by decide +kernel
theorem dX7_undo_21 : decode cX7_undo 21 = .ok (.iconst 3, 1) := by decide +kernel
theorem dX7_undo_22 : decode cX7_undo 22 = .ok (.aload_n 0, 1) := by decide +kernel
theorem dX7_undo_23 : decode cX7_undo 23 = .ok (.getfield 103, 3) := by decide +kernel
theorem dX7_undo_26 : decode cX7_undo 26 = .ok (.iadd, 1) := by decide +kernel
theorem dX7_undo_27 : decode cX7_undo 27 = .ok (.iconst 0, 1) := by decide +kernel
theorem dX7_undo_28 : decode cX7_undo 28 = .ok (.invokevirtual 126, 3) := by decide +kernel
theorem dX7_undo_31 : decode cX7_undo 31 = .ok (.aload_n 0, 1) := by decide +kernel
theorem dX7_undo_32 : decode cX7_undo 32 = .ok (.getfield 103, 3) := by decide +kernel
theorem dX7_undo_35 : decode cX7_undo 35 = .ok (.ireturn, 1) := by decide +kernel
set_option maxRecDepth 20000 in
theorem ggX7_ways_X7_costs : GoodIn wsX7_ways wsX7_costs := goodIn_r _ [9, 10, 11, 12, 13, 14, 15, 16, 17, 18, 19, 20, 21, 22, 23, 24, 25, 26, 27, 28, 29] (by decide +kernel) (by decide +kernel)
set_option maxRecDepth 20000 in
theorem gX7_ways_X7_costs : GoodIn wsX7_ways (wsV RX7 130 RX7 yX7_costs wsX7_costs) := goodIn_app (goodIn_of _ (by decide +kernel)) ggX7_ways_X7_costs
theorem dX7_ways_0 : decode cX7_ways 0 = .ok (.iconst 0, 1) := by decide +kernel
theorem dX7_ways_1 : decode cX7_ways 1 = .ok (.istore 5, 2) := by decide +kernel
theorem dX7_ways_3 : decode cX7_ways 3 = .ok (.iload 5, 2) := by decide +kernel
theorem dX7_ways_5 : decode cX7_ways 5 = .ok (.bipush 6, 2) := by decide +kernel
theorem dX7_ways_7 : decode cX7_ways 7 = .ok (.if_icmp .ge 28, 3) := by decide +kernel
theorem dX7_ways_10 : decode cX7_ways 10 = .ok (.aload_n 0, 1) := by decide +kernel
theorem dX7_ways_11 : decode cX7_ways 11 = .ok (.getfield 41, 3) := by decide +kernel
theorem dX7_ways_14 : decode cX7_ways 14 = .ok (.iload 5, 2) := by decide +kernel
theorem dX7_ways_16 : decode cX7_ways 16 = .ok (.iload 5, 2) := by decide +kernel
theorem dX7_ways_18 : decode cX7_ways 18 = .ok (.iload_n 3, 1) := by decide +kernel
theorem dX7_ways_19 : decode cX7_ways 19 = .ok (.if_icmp .ne 7, 3) := by decide +kernel
theorem dX7_ways_22 : decode cX7_ways 22 = .ok (.iconst 0, 1) := by decide +kernel
theorem dX7_ways_23 : decode cX7_ways 23 = .ok (.goto 5, 3) := by decide +kernel
theorem dX7_ways_26 : decode cX7_ways 26 = .ok (.ldc 159, 2) := by decide +kernel
theorem dX7_ways_28 : decode cX7_ways 28 = .ok (.iastore, 1) := by decide +kernel
theorem dX7_ways_29 : decode cX7_ways 29 = .ok (.iinc 5 1, 3) := by decide +kernel
theorem dX7_ways_32 : decode cX7_ways 32 = .ok (.goto (-29), 3) := by decide +kernel
theorem dX7_ways_35 : decode cX7_ways 35 = .ok (.iconst 0, 1) := by decide +kernel
theorem dX7_ways_36 : decode cX7_ways 36 = .ok (.istore 5, 2) := by decide +kernel
theorem dX7_ways_38 : decode cX7_ways 38 = .ok (.iload 5, 2) := by decide +kernel
theorem dX7_ways_40 : decode cX7_ways 40 = .ok (.bipush 6, 2) := by decide +kernel
theorem dX7_ways_42 : decode cX7_ways 42 = .ok (.if_icmp .ge 172, 3) := by decide +kernel
theorem dX7_ways_45 : decode cX7_ways 45 = .ok (.iconst 0, 1) := by decide +kernel
theorem dX7_ways_46 : decode cX7_ways 46 = .ok (.istore 6, 2) := by decide +kernel
theorem dX7_ways_48 : decode cX7_ways 48 = .ok (.iload 6, 2) := by decide +kernel
theorem dX7_ways_50 : decode cX7_ways 50 = .ok (.aload_n 0, 1) := by decide +kernel
theorem dX7_ways_51 : decode cX7_ways 51 = .ok (.getfield 17, 3) := by decide +kernel
theorem dX7_ways_54 : decode cX7_ways 54 = .ok (.iconst 0, 1) := by decide +kernel
theorem dX7_ways_55 : decode cX7_ways 55 = .ok (.iaload, 1) := by decide +kernel
theorem dX7_ways_56 : decode cX7_ways 56 = .ok (.if_icmp .ge 152, 3) := by decide +kernel
theorem dX7_ways_59 : decode cX7_ways 59 = .ok (.iload 4, 2) := by decide +kernel
theorem dX7_ways_61 : decode cX7_ways 61 = .ok (.iload 6, 2) := by decide +kernel
theorem dX7_ways_63 : decode cX7_ways 63 = .ok (.ishr, 1) := by decide +kernel
theorem dX7_ways_64 : decode cX7_ways 64 = .ok (.iconst 1, 1) := by decide +kernel
theorem dX7_ways_65 : decode cX7_ways 65 = .ok (.iand, 1) := by decide +kernel
theorem dX7_ways_66 : decode cX7_ways 66 = .ok (.iconst 1, 1) := by decide +kernel
theorem dX7_ways_67 : decode cX7_ways 67 = .ok (.if_icmp .ne 7, 3) := by decide +kernel
theorem dX7_ways_70 : decode cX7_ways 70 = .ok (.iconst 1, 1) := by decide +kernel
theorem dX7_ways_71 : decode cX7_ways 71 = .ok (.goto 11, 3) := by decide +kernel
theorem dX7_ways_74 : decode cX7_ways 74 = .ok (.aload_n 0, 1) := by decide +kernel
theorem dX7_ways_75 : decode cX7_ways 75 = .ok (.iload_n 1, 1) := by decide +kernel
theorem dX7_ways_76 : decode cX7_ways 76 = .ok (.iload 6, 2) := by decide +kernel
theorem dX7_ways_78 : decode cX7_ways 78 = .ok (.iload_n 2, 1) := by decide +kernel
theorem dX7_ways_79 : decode cX7_ways 79 = .ok (.invokevirtual 130, 3) := by decide +kernel
theorem dX7_ways_82 : decode cX7_ways 82 = .ok (.istore 7, 2) := by decide +kernel
theorem dX7_ways_84 : decode cX7_ways 84 = .ok (.aload_n 0, 1) := by decide +kernel
theorem dX7_ways_85 : decode cX7_ways 85 = .ok (.getfield 20, 3) := by decide +kernel
theorem dX7_ways_88 : decode cX7_ways 88 = .ok (.iconst 3, 1) := by decide +kernel
theorem dX7_ways_89 : decode cX7_ways 89 = .ok (.iload 6, 2) := by decide +kernel
theorem dX7_ways_91 : decode cX7_ways 91 = .ok (.imul, 1) := by decide +kernel
theorem dX7_ways_92 : decode cX7_ways 92 = .ok (.iaload, 1) := by decide +kernel
theorem dX7_ways_93 : decode cX7_ways 93 = .ok (.istore 8, 2) := by decide +kernel
theorem dX7_ways_95 : decode cX7_ways 95 = .ok (.aload_n 0, 1) := by decide +kernel
theorem dX7_ways_96 : decode cX7_ways 96 = .ok (.getfield 20, 3) := by decide +kernel
theorem dX7_ways_99 : decode cX7_ways 99 = .ok (.iconst 3, 1) := by decide +kernel
theorem dX7_ways_100 : decode cX7_ways 100 = .ok (.iload 6, 2) := by decide +kernel
theorem dX7_ways_102 : decode cX7_ways 102 = .ok (.imul, 1) := by decide +kernel
theorem dX7_ways_103 : decode cX7_ways 103 = .ok (.iconst 1, 1) := by decide +kernel
theorem dX7_ways_104 : decode cX7_ways 104 = .ok (.iadd, 1) := by decide +kernel
theorem dX7_ways_105 : decode cX7_ways 105 = .ok (.iaload, 1) := by decide +kernel
theorem dX7_ways_106 : decode cX7_ways 106 = .ok (.istore 9, 2) := by decide +kernel
theorem dX7_ways_108 : decode cX7_ways 108 = .ok (.aload_n 0, 1) := by decide +kernel
theorem dX7_ways_109 : decode cX7_ways 109 = .ok (.getfield 41, 3) := by decide +kernel
theorem dX7_ways_112 : decode cX7_ways 112 = .ok (.iload 8, 2) := by decide +kernel
theorem dX7_ways_114 : decode cX7_ways 114 = .ok (.aload_n 0, 1) := by decide +kernel
theorem dX7_ways_115 : decode cX7_ways 115 = .ok (.getfield 41, 3) := by decide +kernel
theorem dX7_ways_118 : decode cX7_ways 118 = .ok (.iload 9, 2) := by decide +kernel
theorem dX7_ways_120 : decode cX7_ways 120 = .ok (.iaload, 1) := by decide +kernel
theorem dX7_ways_121 : decode cX7_ways 121 = .ok (.iload 7, 2) := by decide +kernel
theorem dX7_ways_123 : decode cX7_ways 123 = .ok (.iadd, 1) := by decide +kernel
theorem dX7_ways_124 : decode cX7_ways 124 = .ok (.aload_n 0, 1) := by decide +kernel
theorem dX7_ways_125 : decode cX7_ways 125 = .ok (.getfield 41, 3) := by decide +kernel
theorem dX7_ways_128 : decode cX7_ways 128 = .ok (.iload 8, 2) := by decide +kernel
theorem dX7_ways_130 : decode cX7_ways 130 = .ok (.iaload, 1) := by decide +kernel
theorem dX7_ways_131 : decode cX7_ways 131 = .ok (.if_icmp .ge 16, 3) := by decide +kernel
theorem dX7_ways_134 : decode cX7_ways 134 = .ok (.aload_n 0, 1) := by decide +kernel
theorem dX7_ways_135 : decode cX7_ways 135 = .ok (.getfield 41, 3) := by decide +kernel
theorem dX7_ways_138 : decode cX7_ways 138 = .ok (.iload 9, 2) := by decide +kernel
theorem dX7_ways_140 : decode cX7_ways 140 = .ok (.iaload, 1) := by decide +kernel
theorem dX7_ways_141 : decode cX7_ways 141 = .ok (.iload 7, 2) := by decide +kernel
theorem dX7_ways_143 : decode cX7_ways 143 = .ok (.iadd, 1) := by decide +kernel
theorem dX7_ways_144 : decode cX7_ways 144 = .ok (.goto 10, 3) := by decide +kernel
theorem dX7_ways_147 : decode cX7_ways 147 = .ok (.aload_n 0, 1) := by decide +kernel
theorem dX7_ways_148 : decode cX7_ways 148 = .ok (.getfield 41, 3) := by decide +kernel
theorem dX7_ways_151 : decode cX7_ways 151 = .ok (.iload 8, 2) := by decide +kernel
theorem dX7_ways_153 : decode cX7_ways 153 = .ok (.iaload, 1) := by decide +kernel
theorem dX7_ways_154 : decode cX7_ways 154 = .ok (.iastore, 1) := by decide +kernel
theorem dX7_ways_155 : decode cX7_ways 155 = .ok (.aload_n 0, 1) := by decide +kernel
theorem dX7_ways_156 : decode cX7_ways 156 = .ok (.getfield 41, 3) := by decide +kernel
theorem dX7_ways_159 : decode cX7_ways 159 = .ok (.iload 9, 2) := by decide +kernel
theorem dX7_ways_161 : decode cX7_ways 161 = .ok (.aload_n 0, 1) := by decide +kernel
theorem dX7_ways_162 : decode cX7_ways 162 = .ok (.getfield 41, 3) := by decide +kernel
theorem dX7_ways_165 : decode cX7_ways 165 = .ok (.iload 8, 2) := by decide +kernel
theorem dX7_ways_167 : decode cX7_ways 167 = .ok (.iaload, 1) := by decide +kernel
theorem dX7_ways_168 : decode cX7_ways 168 = .ok (.iload 7, 2) := by decide +kernel
theorem dX7_ways_170 : decode cX7_ways 170 = .ok (.iadd, 1) := by decide +kernel
theorem dX7_ways_171 : decode cX7_ways 171 = .ok (.aload_n 0, 1) := by decide +kernel
theorem dX7_ways_172 : decode cX7_ways 172 = .ok (.getfield 41, 3) := by decide +kernel
theorem dX7_ways_175 : decode cX7_ways 175 = .ok (.iload 9, 2) := by decide +kernel
theorem dX7_ways_177 : decode cX7_ways 177 = .ok (.iaload, 1) := by decide +kernel
theorem dX7_ways_178 : decode cX7_ways 178 = .ok (.if_icmp .ge 16, 3) := by decide +kernel
theorem dX7_ways_181 : decode cX7_ways 181 = .ok (.aload_n 0, 1) := by decide +kernel
theorem dX7_ways_182 : decode cX7_ways 182 = .ok (.getfield 41, 3) := by decide +kernel
theorem dX7_ways_185 : decode cX7_ways 185 = .ok (.iload 8, 2) := by decide +kernel
theorem dX7_ways_187 : decode cX7_ways 187 = .ok (.iaload, 1) := by decide +kernel
theorem dX7_ways_188 : decode cX7_ways 188 = .ok (.iload 7, 2) := by decide +kernel
theorem dX7_ways_190 : decode cX7_ways 190 = .ok (.iadd, 1) := by decide +kernel
theorem dX7_ways_191 : decode cX7_ways 191 = .ok (.goto 10, 3) := by decide +kernel
theorem dX7_ways_194 : decode cX7_ways 194 = .ok (.aload_n 0, 1) := by decide +kernel
theorem dX7_ways_195 : decode cX7_ways 195 = .ok (.getfield 41, 3) := by decide +kernel
theorem dX7_ways_198 : decode cX7_ways 198 = .ok (.iload 9, 2) := by decide +kernel
theorem dX7_ways_200 : decode cX7_ways 200 = .ok (.iaload, 1) := by decide +kernel
theorem dX7_ways_201 : decode cX7_ways 201 = .ok (.iastore, 1) := by decide +kernel
theorem dX7_ways_202 : decode cX7_ways 202 = .ok (.iinc 6 1, 3) := by decide +kernel
theorem dX7_ways_205 : decode cX7_ways 205 = .ok (.goto (-157), 3) := by decide +kernel
theorem dX7_ways_208 : decode cX7_ways 208 = .ok (.iinc 5 1, 3) := by decide +kernel
theorem dX7_ways_211 : decode cX7_ways 211 = .ok (.goto (-173), 3) := by decide +kernel
theorem dX7_ways_214 : decode cX7_ways 214 = .ok (.return_, 1) := by decide +kernel
set_option maxRecDepth 20000 in
theorem ggX7_wayOf_X7_ways : GoodIn wsX7_wayOf wsX7_ways := goodIn_r _ [7, 1, 2, 8, 9, 10, 11, 12, 6, 13, 14, 15, 16, 17, 18, 19, 20, 21, 22, 23, 24, 25, 26, 27, 28, 29, 30, 31, 32, 33] (by decide +kernel) (by decide +kernel)
set_option maxRecDepth 20000 in
theorem gX7_wayOf_X7_ways : GoodIn wsX7_wayOf (wsV RX7 160 RX7 yX7_ways wsX7_ways) := goodIn_app (goodIn_of _ (by decide +kernel)) ggX7_wayOf_X7_ways
theorem dX7_wayOf_0 : decode cX7_wayOf 0 = .ok (.aload_n 0, 1) := by decide +kernel
theorem dX7_wayOf_1 : decode cX7_wayOf 1 = .ok (.iload_n 1, 1) := by decide +kernel
theorem dX7_wayOf_2 : decode cX7_wayOf 2 = .ok (.iload_n 2, 1) := by decide +kernel
theorem dX7_wayOf_3 : decode cX7_wayOf 3 = .ok (.iload 4, 2) := by decide +kernel
theorem dX7_wayOf_5 : decode cX7_wayOf 5 = .ok (.iconst 0, 1) := by decide +kernel
theorem dX7_wayOf_6 : decode cX7_wayOf 6 = .ok (.invokevirtual 160, 3) := by decide +kernel
theorem dX7_wayOf_9 : decode cX7_wayOf 9 = .ok (.aload_n 0, 1) := by decide +kernel
theorem dX7_wayOf_10 : decode cX7_wayOf 10 = .ok (.getfield 41, 3) := by decide +kernel
theorem dX7_wayOf_13 : decode cX7_wayOf 13 = .ok (.iload_n 3, 1) := by decide +kernel
theorem dX7_wayOf_14 : decode cX7_wayOf 14 = .ok (.iaload, 1) := by decide +kernel
theorem dX7_wayOf_15 : decode cX7_wayOf 15 = .ok (.ldc 159, 2) := by decide +kernel
theorem dX7_wayOf_17 : decode cX7_wayOf 17 = .ok (.if_icmp .ge 12, 3) := by decide +kernel
theorem dX7_wayOf_20 : decode cX7_wayOf 20 = .ok (.aload_n 0, 1) := by decide +kernel
theorem dX7_wayOf_21 : decode cX7_wayOf 21 = .ok (.getfield 41, 3) := by decide +kernel
theorem dX7_wayOf_24 : decode cX7_wayOf 24 = .ok (.iload_n 3, 1) := by decide +kernel
theorem dX7_wayOf_25 : decode cX7_wayOf 25 = .ok (.iaload, 1) := by decide +kernel
theorem dX7_wayOf_26 : decode cX7_wayOf 26 = .ok (.goto 5, 3) := by decide +kernel
theorem dX7_wayOf_29 : decode cX7_wayOf 29 = .ok (.bipush (-4), 2) := by decide +kernel
theorem dX7_wayOf_31 : decode cX7_wayOf 31 = .ok (.ireturn, 1) := by decide +kernel
set_option maxRecDepth 20000 in
theorem ggX7_way_X7_isLodger : GoodIn wsX7_way wsX7_isLodger := goodIn_r _ [5, 6, 7, 8, 4, 9, 32, 33, 34, 35, 36, 37, 38, 39, 40, 41, 42, 43, 44, 45, 46, 47, 48, 49, 50] (by decide +kernel) (by decide +kernel)
set_option maxRecDepth 20000 in
theorem gX7_way_X7_isLodger : GoodIn wsX7_way (wsV RX7 123 RX7 yX7_isLodger wsX7_isLodger) := goodIn_app (goodIn_of _ (by decide +kernel)) ggX7_way_X7_isLodger
set_option maxRecDepth 20000 in
theorem ggX7_way_X7_isRoom : GoodIn wsX7_way wsX7_isRoom := goodIn_r _ [13, 14, 7, 8, 4, 9, 32, 33, 34, 35, 36, 37, 38, 39, 40, 41, 42, 43, 44, 45, 46, 47, 48, 49, 50] (by decide +kernel) (by decide +kernel)
set_option maxRecDepth 20000 in
theorem gX7_way_X7_isRoom : GoodIn wsX7_way (wsV RX7 164 RX7 yX7_isRoom wsX7_isRoom) := goodIn_app (goodIn_of _ (by decide +kernel)) ggX7_way_X7_isRoom
set_option maxRecDepth 20000 in
theorem ggX7_way_X7_wayOf : GoodIn wsX7_way wsX7_wayOf := goodIn_r _ [18, 19, 20, 21, 22, 23, 4, 24, 25, 26, 27, 28, 29, 30, 31, 32, 33, 34, 35, 36, 37, 38, 39, 40, 41, 42, 43, 44, 45, 46, 47, 48, 49, 50] (by decide +kernel) (by decide +kernel)
set_option maxRecDepth 20000 in
theorem gX7_way_X7_wayOf : GoodIn wsX7_way (wsV RX7 167 RX7 yX7_wayOf wsX7_wayOf) := goodIn_app (goodIn_of _ (by decide +kernel)) ggX7_way_X7_wayOf
theorem dX7_way_0 : decode cX7_way 0 = .ok (.aload_n 0, 1) := by decide +kernel
theorem dX7_way_1 : decode cX7_way 1 = .ok (.iload_n 1, 1) := by decide +kernel
theorem dX7_way_2 : decode cX7_way 2 = .ok (.invokevirtual 123, 3) := by decide +kernel
theorem dX7_way_5 : decode cX7_way 5 = .ok (.ifCond .eq 30, 3) := by decide +kernel
theorem dX7_way_8 : decode cX7_way 8 = .ok (.aload_n 0, 1) := by decide +kernel
theorem dX7_way_9 : decode cX7_way 9 = .ok (.iload_n 2, 1) := by decide +kernel
theorem dX7_way_10 : decode cX7_way 10 = .ok (.invokevirtual 164, 3) := by decide +kernel
theorem dX7_way_13 : decode cX7_way 13 = .ok (.ifCond .eq 22, 3) := by decide +kernel
theorem dX7_way_16 : decode cX7_way 16 = .ok (.aload_n 0, 1) := by decide +kernel
theorem dX7_way_17 : decode cX7_way 17 = .ok (.iload_n 3, 1) := by decide +kernel
theorem dX7_way_18 : decode cX7_way 18 = .ok (.invokevirtual 164, 3) := by decide +kernel
theorem dX7_way_21 : decode cX7_way 21 = .ok (.ifCond .eq 14, 3) := by decide +kernel
theorem dX7_way_24 : decode cX7_way 24 = .ok (.aload_n 0, 1) := by decide +kernel
theorem dX7_way_25 : decode cX7_way 25 = .ok (.iconst 0, 1) := by decide +kernel
theorem dX7_way_26 : decode cX7_way 26 = .ok (.iload_n 1, 1) := by decide +kernel
theorem dX7_way_27 : decode cX7_way 27 = .ok (.iload_n 2, 1) := by decide +kernel
theorem dX7_way_28 : decode cX7_way 28 = .ok (.iload_n 3, 1) := by decide +kernel
theorem dX7_way_29 : decode cX7_way 29 = .ok (.invokevirtual 167, 3) := by decide +kernel
theorem dX7_way_32 : decode cX7_way 32 = .ok (.goto 4, 3) := by decide +kernel
theorem dX7_way_35 : decode cX7_way 35 = .ok (.iconst (-1), 1) := by decide +kernel
theorem dX7_way_36 : decode cX7_way 36 = .ok (.ireturn, 1) := by decide +kernel
set_option maxRecDepth 20000 in
theorem ggX7_firstOf_X7_wayOf : GoodIn wsX7_firstOf wsX7_wayOf := goodIn_r _ [7, 2, 8, 9, 10, 11, 6, 12, 1, 13, 14, 15, 16, 17, 18, 27, 28, 29, 30, 31, 32, 33, 34, 35, 36, 37, 38, 39, 40, 41, 42, 43, 44, 45] (by decide +kernel) (by decide +kernel)
set_option maxRecDepth 20000 in
theorem gX7_firstOf_X7_wayOf : GoodIn wsX7_firstOf (wsV RX7 167 RX7 yX7_wayOf wsX7_wayOf) := goodIn_app (goodIn_of _ (by decide +kernel)) ggX7_firstOf_X7_wayOf
set_option maxRecDepth 20000 in
theorem ggX7_firstOf_X7_isOf : GoodIn wsX7_firstOf wsX7_isOf := goodIn_r _ [22, 13, 27, 28, 29, 30, 31, 32, 33, 34, 35, 36, 37, 38, 39, 40, 41, 42, 43, 44, 45] (by decide +kernel) (by decide +kernel)
set_option maxRecDepth 20000 in
theorem gX7_firstOf_X7_isOf : GoodIn wsX7_firstOf (wsV RX7 142 RX7 yX7_isOf wsX7_isOf) := goodIn_app (goodIn_of _ (by decide +kernel)) ggX7_firstOf_X7_isOf
set_option maxRecDepth 20000 in
theorem ggX7_firstOf_X7_costs : GoodIn wsX7_firstOf wsX7_costs := goodIn_r _ [17, 18, 27, 28, 29, 30, 31, 32, 33, 34, 35, 36, 37, 38, 39, 40, 41, 42, 43, 44, 45] (by decide +kernel) (by decide +kernel)
set_option maxRecDepth 20000 in
theorem gX7_firstOf_X7_costs : GoodIn wsX7_firstOf (wsV RX7 130 RX7 yX7_costs wsX7_costs) := goodIn_app (goodIn_of _ (by decide +kernel)) ggX7_firstOf_X7_costs
set_option maxRecDepth 20000 in
theorem ggX7_firstOf_X7_over : GoodIn wsX7_firstOf wsX7_over := goodIn_r _ [26, 13, 27, 28, 29, 30, 31, 32, 33, 34, 35, 36, 37, 38, 39, 40, 41, 42, 43, 44, 45] (by decide +kernel) (by decide +kernel)
set_option maxRecDepth 20000 in
theorem gX7_firstOf_X7_over : GoodIn wsX7_firstOf (wsV RX7 138 RX7 yX7_over wsX7_over) := goodIn_app (goodIn_of _ (by decide +kernel)) ggX7_firstOf_X7_over
theorem dX7_firstOf_0 : decode cX7_firstOf 0 = .ok (.aload_n 0, 1) := by decide +kernel
theorem dX7_firstOf_1 : decode cX7_firstOf 1 = .ok (.iload_n 1, 1) := by decide +kernel
theorem dX7_firstOf_2 : decode cX7_firstOf 2 = .ok (.iload_n 2, 1) := by decide +kernel
theorem dX7_firstOf_3 : decode cX7_firstOf 3 = .ok (.iload_n 3, 1) := by decide +kernel
theorem dX7_firstOf_4 : decode cX7_firstOf 4 = .ok (.iload 4, 2) := by decide +kernel
theorem dX7_firstOf_6 : decode cX7_firstOf 6 = .ok (.invokevirtual 167, 3) := by decide +kernel
theorem dX7_firstOf_9 : decode cX7_firstOf 9 = .ok (.istore 5, 2) := by decide +kernel
theorem dX7_firstOf_11 : decode cX7_firstOf 11 = .ok (.iconst 0, 1) := by decide +kernel
theorem dX7_firstOf_12 : decode cX7_firstOf 12 = .ok (.istore 6, 2) := by decide +kernel
theorem dX7_firstOf_14 : decode cX7_firstOf 14 = .ok (.iload 6, 2) := by decide +kernel
theorem dX7_firstOf_16 : decode cX7_firstOf 16 = .ok (.aload_n 0, 1) := by decide +kernel
theorem dX7_firstOf_17 : decode cX7_firstOf 17 = .ok (.getfield 17, 3) := by decide +kernel
theorem dX7_firstOf_20 : decode cX7_firstOf 20 = .ok (.iconst 0, 1) := by decide +kernel
theorem dX7_firstOf_21 : decode cX7_firstOf 21 = .ok (.iaload, 1) := by decide +kernel
theorem dX7_firstOf_22 : decode cX7_firstOf 22 = .ok (.if_icmp .ge 53, 3) := by decide +kernel
theorem dX7_firstOf_25 : decode cX7_firstOf 25 = .ok (.iload 5, 2) := by decide +kernel
theorem dX7_firstOf_27 : decode cX7_firstOf 27 = .ok (.ifCond .le 48, 3) := by decide +kernel
theorem dX7_firstOf_30 : decode cX7_firstOf 30 = .ok (.aload_n 0, 1) := by decide +kernel
theorem dX7_firstOf_31 : decode cX7_firstOf 31 = .ok (.iload 6, 2) := by decide +kernel
theorem dX7_firstOf_33 : decode cX7_firstOf 33 = .ok (.iload_n 3, 1) := by decide +kernel
theorem dX7_firstOf_34 : decode cX7_firstOf 34 = .ok (.invokevirtual 142, 3) := by decide +kernel
theorem dX7_firstOf_37 : decode cX7_firstOf 37 = .ok (.ifCond .eq 32, 3) := by decide +kernel
theorem dX7_firstOf_40 : decode cX7_firstOf 40 = .ok (.aload_n 0, 1) := by decide +kernel
theorem dX7_firstOf_41 : decode cX7_firstOf 41 = .ok (.iload_n 1, 1) := by decide +kernel
theorem dX7_firstOf_42 : decode cX7_firstOf 42 = .ok (.iload 6, 2) := by decide +kernel
theorem dX7_firstOf_44 : decode cX7_firstOf 44 = .ok (.iload_n 2, 1) := by decide +kernel
theorem dX7_firstOf_45 : decode cX7_firstOf 45 = .ok (.invokevirtual 130, 3) := by decide +kernel
theorem dX7_firstOf_48 : decode cX7_firstOf 48 = .ok (.aload_n 0, 1) := by decide +kernel
theorem dX7_firstOf_49 : decode cX7_firstOf 49 = .ok (.getfield 41, 3) := by decide +kernel
theorem dX7_firstOf_52 : decode cX7_firstOf 52 = .ok (.aload_n 0, 1) := by decide +kernel
theorem dX7_firstOf_53 : decode cX7_firstOf 53 = .ok (.iload 6, 2) := by decide +kernel
theorem dX7_firstOf_55 : decode cX7_firstOf 55 = .ok (.iload_n 3, 1) := by decide +kernel
theorem dX7_firstOf_56 : decode cX7_firstOf 56 = .ok (.invokevirtual 138, 3) := by decide +kernel
theorem dX7_firstOf_59 : decode cX7_firstOf 59 = .ok (.iaload, 1) := by decide +kernel
theorem dX7_firstOf_60 : decode cX7_firstOf 60 = .ok (.iadd, 1) := by decide +kernel
theorem dX7_firstOf_61 : decode cX7_firstOf 61 = .ok (.iload 5, 2) := by decide +kernel
theorem dX7_firstOf_63 : decode cX7_firstOf 63 = .ok (.if_icmp .ne 6, 3) := by decide +kernel
theorem dX7_firstOf_66 : decode cX7_firstOf 66 = .ok (.iload 6, 2) := by decide +kernel
theorem dX7_firstOf_68 : decode cX7_firstOf 68 = .ok (.ireturn, 1) := by decide +kernel
theorem dX7_firstOf_69 : decode cX7_firstOf 69 = .ok (.iinc 6 1, 3) := by decide +kernel
theorem dX7_firstOf_72 : decode cX7_firstOf 72 = .ok (.goto (-58), 3) := by decide +kernel
theorem dX7_firstOf_75 : decode cX7_firstOf 75 = .ok (.bipush (-4), 2) := by decide +kernel
theorem dX7_firstOf_77 : decode cX7_firstOf 77 = .ok (.ireturn, 1) := by decide +kernel
set_option maxRecDepth 20000 in
theorem ggX7_first_X7_isLodger : GoodIn wsX7_first wsX7_isLodger := goodIn_r _ [5, 6, 7, 8, 4, 9, 44, 45, 46, 47, 48, 49, 50, 51, 52, 53, 54, 55, 56, 57, 58, 59, 60, 61, 62] (by decide +kernel) (by decide +kernel)
set_option maxRecDepth 20000 in
theorem gX7_first_X7_isLodger : GoodIn wsX7_first (wsV RX7 123 RX7 yX7_isLodger wsX7_isLodger) := goodIn_app (goodIn_of _ (by decide +kernel)) ggX7_first_X7_isLodger
set_option maxRecDepth 20000 in
theorem ggX7_first_X7_isRoom : GoodIn wsX7_first wsX7_isRoom := goodIn_r _ [13, 14, 7, 8, 4, 9, 44, 45, 46, 47, 48, 49, 50, 51, 52, 53, 54, 55, 56, 57, 58, 59, 60, 61, 62] (by decide +kernel) (by decide +kernel)
set_option maxRecDepth 20000 in
theorem gX7_first_X7_isRoom : GoodIn wsX7_first (wsV RX7 164 RX7 yX7_isRoom wsX7_isRoom) := goodIn_app (goodIn_of _ (by decide +kernel)) ggX7_first_X7_isRoom
set_option maxRecDepth 20000 in
theorem ggX7_first_X7_firstOf : GoodIn wsX7_first wsX7_firstOf := goodIn_r _ [18, 19, 20, 21, 22, 23, 4, 24, 25, 26, 27, 28, 29, 30, 31, 32, 33, 34, 35, 36, 37, 38, 39, 40, 41, 42, 43, 44, 45, 46, 47, 48, 49, 50, 51, 52, 53, 54, 55, 56, 57, 58, 59, 60, 61, 62] (by decide +kernel) (by decide +kernel)
set_option maxRecDepth 20000 in
theorem gX7_first_X7_firstOf : GoodIn wsX7_first (wsV RX7 171 RX7 yX7_firstOf wsX7_firstOf) := goodIn_app (goodIn_of _ (by decide +kernel)) ggX7_first_X7_firstOf
theorem dX7_first_0 : decode cX7_first 0 = .ok (.aload_n 0, 1) := by decide +kernel
theorem dX7_first_1 : decode cX7_first 1 = .ok (.iload_n 1, 1) := by decide +kernel
theorem dX7_first_2 : decode cX7_first 2 = .ok (.invokevirtual 123, 3) := by decide +kernel
theorem dX7_first_5 : decode cX7_first 5 = .ok (.ifCond .eq 30, 3) := by decide +kernel
theorem dX7_first_8 : decode cX7_first 8 = .ok (.aload_n 0, 1) := by decide +kernel
theorem dX7_first_9 : decode cX7_first 9 = .ok (.iload_n 2, 1) := by decide +kernel
theorem dX7_first_10 : decode cX7_first 10 = .ok (.invokevirtual 164, 3) := by decide +kernel
theorem dX7_first_13 : decode cX7_first 13 = .ok (.ifCond .eq 22, 3) := by decide +kernel
theorem dX7_first_16 : decode cX7_first 16 = .ok (.aload_n 0, 1) := by decide +kernel
theorem dX7_first_17 : decode cX7_first 17 = .ok (.iload_n 3, 1) := by decide +kernel
theorem dX7_first_18 : decode cX7_first 18 = .ok (.invokevirtual 164, 3) := by decide +kernel
theorem dX7_first_21 : decode cX7_first 21 = .ok (.ifCond .eq 14, 3) := by decide +kernel
theorem dX7_first_24 : decode cX7_first 24 = .ok (.aload_n 0, 1) := by decide +kernel
theorem dX7_first_25 : decode cX7_first 25 = .ok (.iconst 0, 1) := by decide +kernel
theorem dX7_first_26 : decode cX7_first 26 = .ok (.iload_n 1, 1) := by decide +kernel
theorem dX7_first_27 : decode cX7_first 27 = .ok (.iload_n 2, 1) := by decide +kernel
theorem dX7_first_28 : decode cX7_first 28 = .ok (.iload_n 3, 1) := by decide +kernel
theorem dX7_first_29 : decode cX7_first 29 = .ok (.invokevirtual 171, 3) := by decide +kernel
theorem dX7_first_32 : decode cX7_first 32 = .ok (.goto 4, 3) := by decide +kernel
theorem dX7_first_35 : decode cX7_first 35 = .ok (.iconst (-1), 1) := by decide +kernel
theorem dX7_first_36 : decode cX7_first 36 = .ok (.ireturn, 1) := by decide +kernel
theorem dX7_many_0 : decode cX7_many 0 = .ok (.iconst 0, 1) := by decide +kernel
theorem dX7_many_1 : decode cX7_many 1 = .ok (.istore_n 1, 1) := by decide +kernel
theorem dX7_many_2 : decode cX7_many 2 = .ok (.iconst 0, 1) := by decide +kernel
theorem dX7_many_3 : decode cX7_many 3 = .ok (.istore_n 2, 1) := by decide +kernel
theorem dX7_many_4 : decode cX7_many 4 = .ok (.iload_n 2, 1) := by decide +kernel
theorem dX7_many_5 : decode cX7_many 5 = .ok (.bipush 8, 2) := by decide +kernel
theorem dX7_many_7 : decode cX7_many 7 = .ok (.if_icmp .ge 17, 3) := by decide +kernel
theorem dX7_many_10 : decode cX7_many 10 = .ok (.iload_n 1, 1) := by decide +kernel
theorem dX7_many_11 : decode cX7_many 11 = .ok (.iload_n 0, 1) := by decide +kernel
theorem dX7_many_12 : decode cX7_many 12 = .ok (.iload_n 2, 1) := by decide +kernel
theorem dX7_many_13 : decode cX7_many 13 = .ok (.ishr, 1) := by decide +kernel
theorem dX7_many_14 : decode cX7_many 14 = .ok (.iconst 1, 1) := by decide +kernel
theorem dX7_many_15 : decode cX7_many 15 = .ok (.iand, 1) := by decide +kernel
theorem dX7_many_16 : decode cX7_many 16 = .ok (.iadd, 1) := by decide +kernel
theorem dX7_many_17 : decode cX7_many 17 = .ok (.istore_n 1, 1) := by decide +kernel
theorem dX7_many_18 : decode cX7_many 18 = .ok (.iinc 2 1, 3) := by decide +kernel
theorem dX7_many_21 : decode cX7_many 21 = .ok (.goto (-17), 3) := by decide +kernel
theorem dX7_many_24 : decode cX7_many 24 = .ok (.iload_n 1, 1) := by decide +kernel
theorem dX7_many_25 : decode cX7_many 25 = .ok (.ireturn, 1) := by decide +kernel
set_option maxRecDepth 20000 in
theorem ggX7_inTime_X7_isLodger : GoodIn wsX7_inTime wsX7_isLodger := goodIn_r _ [10, 11, 12, 13, 9, 14, 28, 29, 30, 31, 32, 33, 34, 35, 36, 37, 38, 39, 40, 41, 42, 43, 44, 45, 46] (by decide +kernel) (by decide +kernel)
set_option maxRecDepth 20000 in
theorem gX7_inTime_X7_isLodger : GoodIn wsX7_inTime (wsV RX7 123 RX7 yX7_isLodger wsX7_isLodger) := goodIn_app (goodIn_of _ (by decide +kernel)) ggX7_inTime_X7_isLodger
set_option maxRecDepth 20000 in
theorem ggX7_inTime_X7_in : GoodIn wsX7_inTime wsX7_in := goodIn_r _ [14] (by decide +kernel) (by decide +kernel)
set_option maxRecDepth 20000 in
theorem gX7_inTime_X7_in : GoodIn wsX7_inTime (va_wsS RX7 61 yX7_in wsX7_in) := goodIn_app (goodIn_of _ (by decide +kernel)) ggX7_inTime_X7_in
set_option maxRecDepth 20000 in
theorem ggX7_inTime_X7_ways : GoodIn wsX7_inTime wsX7_ways := goodIn_r _ [18, 4, 19, 2, 20, 21, 22, 23, 9, 24, 5, 28, 29, 30, 31, 32, 33, 34, 35, 36, 37, 38, 39, 40, 41, 42, 43, 44, 45, 46] (by decide +kernel) (by decide +kernel)
set_option maxRecDepth 20000 in
theorem gX7_inTime_X7_ways : GoodIn wsX7_inTime (wsV RX7 160 RX7 yX7_ways wsX7_ways) := goodIn_app (goodIn_of _ (by decide +kernel)) ggX7_inTime_X7_ways
set_option maxRecDepth 20000 in
theorem ggX7_inTime_X7_many : GoodIn wsX7_inTime wsX7_many := goodIn_r _ [27] (by decide +kernel) (by decide +kernel)
set_option maxRecDepth 20000 in
theorem gX7_inTime_X7_many : GoodIn wsX7_inTime (va_wsS RX7 176 yX7_many wsX7_many) := goodIn_app (goodIn_of _ (by decide +kernel)) ggX7_inTime_X7_many
theorem dX7_inTime_0 : decode cX7_inTime 0 = .ok (.aload_n 0, 1) := by decide +kernel
theorem dX7_inTime_1 : decode cX7_inTime 1 = .ok (.iload_n 1, 1) := by decide +kernel
theorem dX7_inTime_2 : decode cX7_inTime 2 = .ok (.invokevirtual 123, 3) := by decide +kernel
theorem dX7_inTime_5 : decode cX7_inTime 5 = .ok (.ifCond .eq 15, 3) := by decide +kernel
theorem dX7_inTime_8 : decode cX7_inTime 8 = .ok (.iload_n 2, 1) := by decide +kernel
theorem dX7_inTime_9 : decode cX7_inTime 9 = .ok (.i2l, 1) := by decide +kernel
theorem dX7_inTime_10 : decode cX7_inTime 10 = .ok (.lconst 0, 1) := by decide +kernel
theorem dX7_inTime_11 : decode cX7_inTime 11 = .ok (.ldc2_w 174, 3) := by decide +kernel
theorem dX7_inTime_14 : decode cX7_inTime 14 = .ok (.invokestatic 61, 3) := by decide +kernel
theorem dX7_inTime_17 : decode cX7_inTime 17 = .ok (.ifCond .ne 5, 3) := by decide +kernel
theorem dX7_inTime_20 : decode cX7_inTime 20 = .ok (.iconst (-1), 1) := by decide +kernel
theorem dX7_inTime_21 : decode cX7_inTime 21 = .ok (.ireturn, 1) := by decide +kernel
theorem dX7_inTime_22 : decode cX7_inTime 22 = .ok (.bipush (-4), 2) := by decide +kernel
theorem dX7_inTime_24 : decode cX7_inTime 24 = .ok (.istore_n 3, 1) := by decide +kernel
theorem dX7_inTime_25 : decode cX7_inTime 25 = .ok (.iconst 0, 1) := by decide +kernel
theorem dX7_inTime_26 : decode cX7_inTime 26 = .ok (.istore 4, 2) := by decide +kernel
theorem dX7_inTime_28 : decode cX7_inTime 28 = .ok (.iload 4, 2) := by decide +kernel
theorem dX7_inTime_30 : decode cX7_inTime 30 = .ok (.iconst 1, 1) := by decide +kernel
theorem dX7_inTime_31 : decode cX7_inTime 31 = .ok (.aload_n 0, 1) := by decide +kernel
theorem dX7_inTime_32 : decode cX7_inTime 32 = .ok (.getfield 17, 3) := by decide +kernel
theorem dX7_inTime_35 : decode cX7_inTime 35 = .ok (.iconst 0, 1) := by decide +kernel
theorem dX7_inTime_36 : decode cX7_inTime 36 = .ok (.iaload, 1) := by decide +kernel
theorem dX7_inTime_37 : decode cX7_inTime 37 = .ok (.ishl, 1) := by decide +kernel
theorem dX7_inTime_38 : decode cX7_inTime 38 = .ok (.if_icmp .ge 68, 3) := by decide +kernel
theorem dX7_inTime_41 : decode cX7_inTime 41 = .ok (.aload_n 0, 1) := by decide +kernel
theorem dX7_inTime_42 : decode cX7_inTime 42 = .ok (.iconst 0, 1) := by decide +kernel
theorem dX7_inTime_43 : decode cX7_inTime 43 = .ok (.iload_n 1, 1) := by decide +kernel
theorem dX7_inTime_44 : decode cX7_inTime 44 = .ok (.aload_n 0, 1) := by decide +kernel
theorem dX7_inTime_45 : decode cX7_inTime 45 = .ok (.getfield 29, 3) := by decide +kernel
theorem dX7_inTime_48 : decode cX7_inTime 48 = .ok (.iconst 3, 1) := by decide +kernel
theorem dX7_inTime_49 : decode cX7_inTime 49 = .ok (.iload_n 1, 1) := by decide +kernel
theorem dX7_inTime_50 : decode cX7_inTime 50 = .ok (.imul, 1) := by decide +kernel
theorem dX7_inTime_51 : decode cX7_inTime 51 = .ok (.iconst 2, 1) := by decide +kernel
theorem dX7_inTime_52 : decode cX7_inTime 52 = .ok (.iadd, 1) := by decide +kernel
theorem dX7_inTime_53 : decode cX7_inTime 53 = .ok (.iaload, 1) := by decide +kernel
theorem dX7_inTime_54 : decode cX7_inTime 54 = .ok (.iload 4, 2) := by decide +kernel
theorem dX7_inTime_56 : decode cX7_inTime 56 = .ok (.invokevirtual 160, 3) := by decide +kernel
theorem dX7_inTime_59 : decode cX7_inTime 59 = .ok (.aload_n 0, 1) := by decide +kernel
theorem dX7_inTime_60 : decode cX7_inTime 60 = .ok (.getfield 41, 3) := by decide +kernel
theorem dX7_inTime_63 : decode cX7_inTime 63 = .ok (.aload_n 0, 1) := by decide +kernel
theorem dX7_inTime_64 : decode cX7_inTime 64 = .ok (.getfield 35, 3) := by decide +kernel
theorem dX7_inTime_67 : decode cX7_inTime 67 = .ok (.bipush 40, 2) := by decide +kernel
theorem dX7_inTime_69 : decode cX7_inTime 69 = .ok (.iload_n 1, 1) := by decide +kernel
theorem dX7_inTime_70 : decode cX7_inTime 70 = .ok (.iadd, 1) := by decide +kernel
theorem dX7_inTime_71 : decode cX7_inTime 71 = .ok (.iaload, 1) := by decide +kernel
theorem dX7_inTime_72 : decode cX7_inTime 72 = .ok (.iaload, 1) := by decide +kernel
theorem dX7_inTime_73 : decode cX7_inTime 73 = .ok (.iload_n 2, 1) := by decide +kernel
theorem dX7_inTime_74 : decode cX7_inTime 74 = .ok (.if_icmp .gt 24, 3) := by decide +kernel
theorem dX7_inTime_77 : decode cX7_inTime 77 = .ok (.iload_n 3, 1) := by decide +kernel
theorem dX7_inTime_78 : decode cX7_inTime 78 = .ok (.ifCond .lt 15, 3) := by decide +kernel
theorem dX7_inTime_81 : decode cX7_inTime 81 = .ok (.iload 4, 2) := by decide +kernel
theorem dX7_inTime_83 : decode cX7_inTime 83 = .ok (.invokestatic 176, 3) := by decide +kernel
theorem dX7_inTime_86 : decode cX7_inTime 86 = .ok (.iload_n 3, 1) := by decide +kernel
theorem dX7_inTime_87 : decode cX7_inTime 87 = .ok (.invokestatic 176, 3) := by decide +kernel
theorem dX7_inTime_90 : decode cX7_inTime 90 = .ok (.if_icmp .ge 8, 3) := by decide +kernel
theorem dX7_inTime_93 : decode cX7_inTime 93 = .ok (.iload 4, 2) := by decide +kernel
theorem dX7_inTime_95 : decode cX7_inTime 95 = .ok (.goto 4, 3) := by decide +kernel
theorem dX7_inTime_98 : decode cX7_inTime 98 = .ok (.iload_n 3, 1) := by decide +kernel
theorem dX7_inTime_99 : decode cX7_inTime 99 = .ok (.istore_n 3, 1) := by decide +kernel
theorem dX7_inTime_100 : decode cX7_inTime 100 = .ok (.iinc 4 1, 3) := by decide +kernel
theorem dX7_inTime_103 : decode cX7_inTime 103 = .ok (.goto (-75), 3) := by decide +kernel
theorem dX7_inTime_106 : decode cX7_inTime 106 = .ok (.iload_n 3, 1) := by decide +kernel
theorem dX7_inTime_107 : decode cX7_inTime 107 = .ok (.ireturn, 1) := by decide +kernel
set_option maxRecDepth 20000 in
theorem ggX7_rooms_X7_in : GoodIn wsX7_rooms wsX7_in := goodIn_r _ [10] (by decide +kernel) (by decide +kernel)
set_option maxRecDepth 20000 in
theorem gX7_rooms_X7_in : GoodIn wsX7_rooms (va_wsS RX7 61 yX7_in wsX7_in) := goodIn_app (goodIn_of _ (by decide +kernel)) ggX7_rooms_X7_in
set_option maxRecDepth 20000 in
theorem ggX7_rooms_X7_tries : GoodIn wsX7_rooms wsX7_tries := goodIn_r _ [14, 2, 5, 15, 3, 6, 16, 17, 18, 9, 19, 20, 21, 22, 23, 24, 25, 26, 27, 28, 29, 30, 31, 32, 33, 34, 35, 36, 37, 38, 39, 40, 41, 42, 43, 44, 45, 46, 47, 48, 49, 50, 51] (by decide +kernel) (by decide +kernel)
set_option maxRecDepth 20000 in
theorem gX7_rooms_X7_tries : GoodIn wsX7_rooms (wsV RX7 184 RX7 yX7_tries wsX7_tries) := goodIn_app (goodIn_of _ (by decide +kernel)) ggX7_rooms_X7_tries
theorem dX7_rooms_0 : decode cX7_rooms 0 = .ok (.iload_n 1, 1) := by decide +kernel
theorem dX7_rooms_1 : decode cX7_rooms 1 = .ok (.i2l, 1) := by decide +kernel
theorem dX7_rooms_2 : decode cX7_rooms 2 = .ok (.ldc2_w 179, 3) := by decide +kernel
theorem dX7_rooms_5 : decode cX7_rooms 5 = .ok (.aload_n 0, 1) := by decide +kernel
theorem dX7_rooms_6 : decode cX7_rooms 6 = .ok (.getfield 26, 3) := by decide +kernel
theorem dX7_rooms_9 : decode cX7_rooms 9 = .ok (.iconst 0, 1) := by decide +kernel
theorem dX7_rooms_10 : decode cX7_rooms 10 = .ok (.iaload, 1) := by decide +kernel
theorem dX7_rooms_11 : decode cX7_rooms 11 = .ok (.iconst 1, 1) := by decide +kernel
theorem dX7_rooms_12 : decode cX7_rooms 12 = .ok (.isub, 1) := by decide +kernel
theorem dX7_rooms_13 : decode cX7_rooms 13 = .ok (.i2l, 1) := by decide +kernel
theorem dX7_rooms_14 : decode cX7_rooms 14 = .ok (.invokestatic 61, 3) := by decide +kernel
theorem dX7_rooms_17 : decode cX7_rooms 17 = .ok (.ifCond .ne 5, 3) := by decide +kernel
theorem dX7_rooms_20 : decode cX7_rooms 20 = .ok (.iconst (-1), 1) := by decide +kernel
theorem dX7_rooms_21 : decode cX7_rooms 21 = .ok (.ireturn, 1) := by decide +kernel
theorem dX7_rooms_22 : decode cX7_rooms 22 = .ok (.aload_n 0, 1) := by decide +kernel
theorem dX7_rooms_23 : decode cX7_rooms 23 = .ok (.iconst (-1), 1) := by decide +kernel
theorem dX7_rooms_24 : decode cX7_rooms 24 = .ok (.putfield 181, 3) := by decide +kernel
theorem dX7_rooms_27 : decode cX7_rooms 27 = .ok (.iconst 1, 1) := by decide +kernel
theorem dX7_rooms_28 : decode cX7_rooms 28 = .ok (.istore_n 2, 1) := by decide +kernel
theorem dX7_rooms_29 : decode cX7_rooms 29 = .ok (.iconst 0, 1) := by decide +kernel
theorem dX7_rooms_30 : decode cX7_rooms 30 = .ok (.istore_n 3, 1) := by decide +kernel
theorem dX7_rooms_31 : decode cX7_rooms 31 = .ok (.iload_n 3, 1) := by decide +kernel
theorem dX7_rooms_32 : decode cX7_rooms 32 = .ok (.aload_n 0, 1) := by decide +kernel
theorem dX7_rooms_33 : decode cX7_rooms 33 = .ok (.getfield 26, 3) := by decide +kernel
theorem dX7_rooms_36 : decode cX7_rooms 36 = .ok (.iconst 0, 1) := by decide +kernel
theorem dX7_rooms_37 : decode cX7_rooms 37 = .ok (.iaload, 1) := by decide +kernel
theorem dX7_rooms_38 : decode cX7_rooms 38 = .ok (.if_icmp .ge 18, 3) := by decide +kernel
theorem dX7_rooms_41 : decode cX7_rooms 41 = .ok (.iload_n 2, 1) := by decide +kernel
theorem dX7_rooms_42 : decode cX7_rooms 42 = .ok (.aload_n 0, 1) := by decide +kernel
theorem dX7_rooms_43 : decode cX7_rooms 43 = .ok (.getfield 13, 3) := by decide +kernel
theorem dX7_rooms_46 : decode cX7_rooms 46 = .ok (.iconst 0, 1) := by decide +kernel
theorem dX7_rooms_47 : decode cX7_rooms 47 = .ok (.iaload, 1) := by decide +kernel
theorem dX7_rooms_48 : decode cX7_rooms 48 = .ok (.imul, 1) := by decide +kernel
theorem dX7_rooms_49 : decode cX7_rooms 49 = .ok (.istore_n 2, 1) := by decide +kernel
theorem dX7_rooms_50 : decode cX7_rooms 50 = .ok (.iinc 3 1, 3) := by decide +kernel
theorem dX7_rooms_53 : decode cX7_rooms 53 = .ok (.goto (-22), 3) := by decide +kernel
theorem dX7_rooms_56 : decode cX7_rooms 56 = .ok (.iconst 0, 1) := by decide +kernel
theorem dX7_rooms_57 : decode cX7_rooms 57 = .ok (.istore_n 3, 1) := by decide +kernel
theorem dX7_rooms_58 : decode cX7_rooms 58 = .ok (.iload_n 3, 1) := by decide +kernel
theorem dX7_rooms_59 : decode cX7_rooms 59 = .ok (.iload_n 2, 1) := by decide +kernel
theorem dX7_rooms_60 : decode cX7_rooms 60 = .ok (.if_icmp .ge 64, 3) := by decide +kernel
theorem dX7_rooms_63 : decode cX7_rooms 63 = .ok (.iload_n 3, 1) := by decide +kernel
theorem dX7_rooms_64 : decode cX7_rooms 64 = .ok (.istore 4, 2) := by decide +kernel
theorem dX7_rooms_66 : decode cX7_rooms 66 = .ok (.aload_n 0, 1) := by decide +kernel
theorem dX7_rooms_67 : decode cX7_rooms 67 = .ok (.getfield 26, 3) := by decide +kernel
theorem dX7_rooms_70 : decode cX7_rooms 70 = .ok (.iconst 0, 1) := by decide +kernel
theorem dX7_rooms_71 : decode cX7_rooms 71 = .ok (.iaload, 1) := by decide +kernel
theorem dX7_rooms_72 : decode cX7_rooms 72 = .ok (.iconst 1, 1) := by decide +kernel
theorem dX7_rooms_73 : decode cX7_rooms 73 = .ok (.isub, 1) := by decide +kernel
theorem dX7_rooms_74 : decode cX7_rooms 74 = .ok (.istore 5, 2) := by decide +kernel
theorem dX7_rooms_76 : decode cX7_rooms 76 = .ok (.iload 5, 2) := by decide +kernel
theorem dX7_rooms_78 : decode cX7_rooms 78 = .ok (.ifCond .lt 36, 3) := by decide +kernel
theorem dX7_rooms_81 : decode cX7_rooms 81 = .ok (.aload_n 0, 1) := by decide +kernel
theorem dX7_rooms_82 : decode cX7_rooms 82 = .ok (.getfield 44, 3) := by decide +kernel
theorem dX7_rooms_85 : decode cX7_rooms 85 = .ok (.iload 5, 2) := by decide +kernel
theorem dX7_rooms_87 : decode cX7_rooms 87 = .ok (.iload 4, 2) := by decide +kernel
theorem dX7_rooms_89 : decode cX7_rooms 89 = .ok (.aload_n 0, 1) := by decide +kernel
theorem dX7_rooms_90 : decode cX7_rooms 90 = .ok (.getfield 13, 3) := by decide +kernel
theorem dX7_rooms_93 : decode cX7_rooms 93 = .ok (.iconst 0, 1) := by decide +kernel
theorem dX7_rooms_94 : decode cX7_rooms 94 = .ok (.iaload, 1) := by decide +kernel
theorem dX7_rooms_95 : decode cX7_rooms 95 = .ok (.irem, 1) := by decide +kernel
theorem dX7_rooms_96 : decode cX7_rooms 96 = .ok (.iastore, 1) := by decide +kernel
theorem dX7_rooms_97 : decode cX7_rooms 97 = .ok (.iload 4, 2) := by decide +kernel
theorem dX7_rooms_99 : decode cX7_rooms 99 = .ok (.aload_n 0, 1) := by decide +kernel
theorem dX7_rooms_100 : decode cX7_rooms 100 = .ok (.getfield 13, 3) := by decide +kernel
theorem dX7_rooms_103 : decode cX7_rooms 103 = .ok (.iconst 0, 1) := by decide +kernel
theorem dX7_rooms_104 : decode cX7_rooms 104 = .ok (.iaload, 1) := by decide +kernel
theorem dX7_rooms_105 : decode cX7_rooms 105 = .ok (.idiv, 1) := by decide +kernel
theorem dX7_rooms_106 : decode cX7_rooms 106 = .ok (.istore 4, 2) := by decide +kernel
theorem dX7_rooms_108 : decode cX7_rooms 108 = .ok (.iinc 5 (-1), 3) := by decide +kernel
theorem dX7_rooms_111 : decode cX7_rooms 111 = .ok (.goto (-35), 3) := by decide +kernel
theorem dX7_rooms_114 : decode cX7_rooms 114 = .ok (.aload_n 0, 1) := by decide +kernel
theorem dX7_rooms_115 : decode cX7_rooms 115 = .ok (.invokevirtual 184, 3) := by decide +kernel
theorem dX7_rooms_118 : decode cX7_rooms 118 = .ok (.iinc 3 1, 3) := by decide +kernel
theorem dX7_rooms_121 : decode cX7_rooms 121 = .ok (.goto (-63), 3) := by decide +kernel
theorem dX7_rooms_124 : decode cX7_rooms 124 = .ok (.aload_n 0, 1) := by decide +kernel
theorem dX7_rooms_125 : decode cX7_rooms 125 = .ok (.getfield 181, 3) := by decide +kernel
theorem dX7_rooms_128 : decode cX7_rooms 128 = .ok (.ifCond .ge 8, 3) := by decide +kernel
theorem dX7_rooms_131 : decode cX7_rooms 131 = .ok (.bipush (-4), 2) := by decide +kernel
theorem dX7_rooms_133 : decode cX7_rooms 133 = .ok (.goto 20, 3) := by decide +kernel
theorem dX7_rooms_136 : decode cX7_rooms 136 = .ok (.iload_n 1, 1) := by decide +kernel
theorem dX7_rooms_137 : decode cX7_rooms 137 = .ok (.ifCond .ge 10, 3) := by decide +kernel
theorem dX7_rooms_140 : decode cX7_rooms 140 = .ok (.aload_n 0, 1) := by decide +kernel
theorem dX7_rooms_141 : decode cX7_rooms 141 = .ok (.getfield 181, 3) := by decide +kernel
theorem dX7_rooms_144 : decode cX7_rooms 144 = .ok (.goto 9, 3) := by decide +kernel
theorem dX7_rooms_147 : decode cX7_rooms 147 = .ok (.aload_n 0, 1) := by decide +kernel
theorem dX7_rooms_148 : decode cX7_rooms 148 = .ok (.getfield 47, 3) := by decide +kernel
theorem dX7_rooms_151 : decode cX7_rooms 151 = .ok (.iload_n 1, 1) := by decide +kernel
theorem dX7_rooms_152 : decode cX7_rooms 152 = .ok (.iaload, 1) := by decide +kernel
theorem dX7_rooms_153 : decode cX7_rooms 153 = .ok (.ireturn, 1) := by decide +kernel
set_option maxRecDepth 20000 in
theorem ggX7_tries_X7_wayOf : GoodIn wsX7_tries wsX7_wayOf := goodIn_r _ [10, 11, 12, 13, 14, 15, 9, 16, 17, 18, 19, 20, 21, 22, 23, 24, 25, 26, 27, 28, 29, 30, 31, 32, 33, 34, 35, 36, 37, 38, 39, 40, 41, 42] (by decide +kernel) (by decide +kernel)
set_option maxRecDepth 20000 in
theorem gX7_tries_X7_wayOf : GoodIn wsX7_tries (wsV RX7 167 RX7 yX7_wayOf wsX7_wayOf) := goodIn_app (goodIn_of _ (by decide +kernel)) ggX7_tries_X7_wayOf
theorem dX7_tries_0 : decode cX7_tries 0 = .ok (.iconst 0, 1) := by decide +kernel
theorem dX7_tries_1 : decode cX7_tries 1 = .ok (.istore_n 1, 1) := by decide +kernel
theorem dX7_tries_2 : decode cX7_tries 2 = .ok (.iconst 0, 1) := by decide +kernel
theorem dX7_tries_3 : decode cX7_tries 3 = .ok (.istore_n 2, 1) := by decide +kernel
theorem dX7_tries_4 : decode cX7_tries 4 = .ok (.iconst 0, 1) := by decide +kernel
theorem dX7_tries_5 : decode cX7_tries 5 = .ok (.istore_n 3, 1) := by decide +kernel
theorem dX7_tries_6 : decode cX7_tries 6 = .ok (.iload_n 3, 1) := by decide +kernel
theorem dX7_tries_7 : decode cX7_tries 7 = .ok (.aload_n 0, 1) := by decide +kernel
theorem dX7_tries_8 : decode cX7_tries 8 = .ok (.getfield 26, 3) := by decide +kernel
theorem dX7_tries_11 : decode cX7_tries 11 = .ok (.iconst 0, 1) := by decide +kernel
theorem dX7_tries_12 : decode cX7_tries 12 = .ok (.iaload, 1) := by decide +kernel
theorem dX7_tries_13 : decode cX7_tries 13 = .ok (.if_icmp .ge 70, 3) := by decide +kernel
theorem dX7_tries_16 : decode cX7_tries 16 = .ok (.iload_n 1, 1) := by decide +kernel
theorem dX7_tries_17 : decode cX7_tries 17 = .ok (.aload_n 0, 1) := by decide +kernel
theorem dX7_tries_18 : decode cX7_tries 18 = .ok (.getfield 44, 3) := by decide +kernel
theorem dX7_tries_21 : decode cX7_tries 21 = .ok (.iload_n 3, 1) := by decide +kernel
theorem dX7_tries_22 : decode cX7_tries 22 = .ok (.iaload, 1) := by decide +kernel
theorem dX7_tries_23 : decode cX7_tries 23 = .ok (.ishr, 1) := by decide +kernel
theorem dX7_tries_24 : decode cX7_tries 24 = .ok (.iconst 1, 1) := by decide +kernel
theorem dX7_tries_25 : decode cX7_tries 25 = .ok (.iand, 1) := by decide +kernel
theorem dX7_tries_26 : decode cX7_tries 26 = .ok (.iconst 1, 1) := by decide +kernel
theorem dX7_tries_27 : decode cX7_tries 27 = .ok (.if_icmp .ne 4, 3) := by decide +kernel
theorem dX7_tries_30 : decode cX7_tries 30 = .ok (.return_, 1) := by decide +kernel
theorem dX7_tries_31 : decode cX7_tries 31 = .ok (.iload_n 1, 1) := by decide +kernel
theorem dX7_tries_32 : decode cX7_tries 32 = .ok (.iconst 1, 1) := by decide +kernel
theorem dX7_tries_33 : decode cX7_tries 33 = .ok (.aload_n 0, 1) := by decide +kernel
theorem dX7_tries_34 : decode cX7_tries 34 = .ok (.getfield 44, 3) := by decide +kernel
theorem dX7_tries_37 : decode cX7_tries 37 = .ok (.iload_n 3, 1) := by decide +kernel
theorem dX7_tries_38 : decode cX7_tries 38 = .ok (.iaload, 1) := by decide +kernel
theorem dX7_tries_39 : decode cX7_tries 39 = .ok (.ishl, 1) := by decide +kernel
theorem dX7_tries_40 : decode cX7_tries 40 = .ok (.ior, 1) := by decide +kernel
theorem dX7_tries_41 : decode cX7_tries 41 = .ok (.istore_n 1, 1) := by decide +kernel
theorem dX7_tries_42 : decode cX7_tries 42 = .ok (.aload_n 0, 1) := by decide +kernel
theorem dX7_tries_43 : decode cX7_tries 43 = .ok (.iconst 0, 1) := by decide +kernel
theorem dX7_tries_44 : decode cX7_tries 44 = .ok (.iload_n 3, 1) := by decide +kernel
theorem dX7_tries_45 : decode cX7_tries 45 = .ok (.aload_n 0, 1) := by decide +kernel
theorem dX7_tries_46 : decode cX7_tries 46 = .ok (.getfield 44, 3) := by decide +kernel
theorem dX7_tries_49 : decode cX7_tries 49 = .ok (.iload_n 3, 1) := by decide +kernel
theorem dX7_tries_50 : decode cX7_tries 50 = .ok (.iaload, 1) := by decide +kernel
theorem dX7_tries_51 : decode cX7_tries 51 = .ok (.aload_n 0, 1) := by decide +kernel
theorem dX7_tries_52 : decode cX7_tries 52 = .ok (.getfield 29, 3) := by decide +kernel
theorem dX7_tries_55 : decode cX7_tries 55 = .ok (.iconst 3, 1) := by decide +kernel
theorem dX7_tries_56 : decode cX7_tries 56 = .ok (.iload_n 3, 1) := by decide +kernel
theorem dX7_tries_57 : decode cX7_tries 57 = .ok (.imul, 1) := by decide +kernel
theorem dX7_tries_58 : decode cX7_tries 58 = .ok (.iconst 2, 1) := by decide +kernel
theorem dX7_tries_59 : decode cX7_tries 59 = .ok (.iadd, 1) := by decide +kernel
theorem dX7_tries_60 : decode cX7_tries 60 = .ok (.iaload, 1) := by decide +kernel
theorem dX7_tries_61 : decode cX7_tries 61 = .ok (.invokevirtual 167, 3) := by decide +kernel
theorem dX7_tries_64 : decode cX7_tries 64 = .ok (.istore 4, 2) := by decide +kernel
theorem dX7_tries_66 : decode cX7_tries 66 = .ok (.iload 4, 2) := by decide +kernel
theorem dX7_tries_68 : decode cX7_tries 68 = .ok (.ifCond .ge 4, 3) := by decide +kernel
theorem dX7_tries_71 : decode cX7_tries 71 = .ok (.return_, 1) := by decide +kernel
theorem dX7_tries_72 : decode cX7_tries 72 = .ok (.iload_n 2, 1) := by decide +kernel
theorem dX7_tries_73 : decode cX7_tries 73 = .ok (.iload 4, 2) := by decide +kernel
theorem dX7_tries_75 : decode cX7_tries 75 = .ok (.iadd, 1) := by decide +kernel
theorem dX7_tries_76 : decode cX7_tries 76 = .ok (.istore_n 2, 1) := by decide +kernel
theorem dX7_tries_77 : decode cX7_tries 77 = .ok (.iinc 3 1, 3) := by decide +kernel
theorem dX7_tries_80 : decode cX7_tries 80 = .ok (.goto (-74), 3) := by decide +kernel
theorem dX7_tries_83 : decode cX7_tries 83 = .ok (.aload_n 0, 1) := by decide +kernel
theorem dX7_tries_84 : decode cX7_tries 84 = .ok (.getfield 181, 3) := by decide +kernel
theorem dX7_tries_87 : decode cX7_tries 87 = .ok (.ifCond .lt 11, 3) := by decide +kernel
theorem dX7_tries_90 : decode cX7_tries 90 = .ok (.iload_n 2, 1) := by decide +kernel
theorem dX7_tries_91 : decode cX7_tries 91 = .ok (.aload_n 0, 1) := by decide +kernel
theorem dX7_tries_92 : decode cX7_tries 92 = .ok (.getfield 181, 3) := by decide +kernel
theorem dX7_tries_95 : decode cX7_tries 95 = .ok (.if_icmp .ge 33, 3) := by decide +kernel
theorem dX7_tries_98 : decode cX7_tries 98 = .ok (.aload_n 0, 1) := by decide +kernel
theorem dX7_tries_99 : decode cX7_tries 99 = .ok (.iload_n 2, 1) := by decide +kernel
theorem dX7_tries_100 : decode cX7_tries 100 = .ok (.putfield 181, 3) := by decide +kernel
theorem dX7_tries_103 : decode cX7_tries 103 = .ok (.iconst 0, 1) := by decide +kernel
theorem dX7_tries_104 : decode cX7_tries 104 = .ok (.istore_n 3, 1) := by decide +kernel
theorem dX7_tries_105 : decode cX7_tries 105 = .ok (.iload_n 3, 1) := by decide +kernel
theorem dX7_tries_106 : decode cX7_tries 106 = .ok (.iconst 4, 1) := by decide +kernel
theorem dX7_tries_107 : decode cX7_tries 107 = .ok (.if_icmp .ge 21, 3) := by decide +kernel
theorem dX7_tries_110 : decode cX7_tries 110 = .ok (.aload_n 0, 1) := by decide +kernel
theorem dX7_tries_111 : decode cX7_tries 111 = .ok (.getfield 47, 3) := by decide +kernel
theorem dX7_tries_114 : decode cX7_tries 114 = .ok (.iload_n 3, 1) := by decide +kernel
theorem dX7_tries_115 : decode cX7_tries 115 = .ok (.aload_n 0, 1) := by decide +kernel
theorem dX7_tries_116 : decode cX7_tries 116 = .ok (.getfield 44, 3) := by decide +kernel
theorem dX7_tries_119 : decode cX7_tries 119 = .ok (.iload_n 3, 1) := by decide +kernel
theorem dX7_tries_120 : decode cX7_tries 120 = .ok (.iaload, 1) := by decide +kernel
theorem dX7_tries_121 : decode cX7_tries 121 = .ok (.iastore, 1) := by decide +kernel
theorem dX7_tries_122 : decode cX7_tries 122 = .ok (.iinc 3 1, 3) := by decide +kernel
theorem dX7_tries_125 : decode cX7_tries 125 = .ok (.goto (-20), 3) := by decide +kernel
theorem dX7_tries_128 : decode cX7_tries 128 = .ok (.return_, 1) := by decide +kernel
set_option maxRecDepth 20000 in
theorem ggX7_behinds_X7_copies : GoodIn wsX7_behinds wsX7_copies := goodIn_r _ [7, 2, 17, 18, 19, 20, 21, 22, 23, 24, 25, 26, 27, 28, 29, 30, 31, 32, 33, 34, 35] (by decide +kernel) (by decide +kernel)
set_option maxRecDepth 20000 in
theorem gX7_behinds_X7_copies : GoodIn wsX7_behinds (wsV RX7 126 RX7 yX7_copies wsX7_copies) := goodIn_app (goodIn_of _ (by decide +kernel)) ggX7_behinds_X7_copies
set_option maxRecDepth 20000 in
theorem ggX7_behinds_X7_nights : GoodIn wsX7_behinds wsX7_nights := goodIn_r _ [11, 12, 2, 1, 13, 14, 15, 16, 17, 18, 19, 20, 21, 22, 23, 24, 25, 26, 27, 28, 29, 30, 31, 32, 33, 34, 35] (by decide +kernel) (by decide +kernel)
set_option maxRecDepth 20000 in
theorem gX7_behinds_X7_nights : GoodIn wsX7_behinds (wsV RX7 155 RX7 yX7_nights wsX7_nights) := goodIn_app (goodIn_of _ (by decide +kernel)) ggX7_behinds_X7_nights
theorem dX7_behinds_0 : decode cX7_behinds 0 = .ok (.aload_n 0, 1) := by decide +kernel
theorem dX7_behinds_1 : decode cX7_behinds 1 = .ok (.iconst 0, 1) := by decide +kernel
theorem dX7_behinds_2 : decode cX7_behinds 2 = .ok (.bipush 11, 2) := by decide +kernel
theorem dX7_behinds_4 : decode cX7_behinds 4 = .ok (.invokevirtual 126, 3) := by decide +kernel
theorem dX7_behinds_7 : decode cX7_behinds 7 = .ok (.iconst 0, 1) := by decide +kernel
theorem dX7_behinds_8 : decode cX7_behinds 8 = .ok (.istore_n 3, 1) := by decide +kernel
theorem dX7_behinds_9 : decode cX7_behinds 9 = .ok (.iload_n 3, 1) := by decide +kernel
theorem dX7_behinds_10 : decode cX7_behinds 10 = .ok (.aload_n 0, 1) := by decide +kernel
theorem dX7_behinds_11 : decode cX7_behinds 11 = .ok (.getfield 17, 3) := by decide +kernel
theorem dX7_behinds_14 : decode cX7_behinds 14 = .ok (.iconst 0, 1) := by decide +kernel
theorem dX7_behinds_15 : decode cX7_behinds 15 = .ok (.iaload, 1) := by decide +kernel
theorem dX7_behinds_16 : decode cX7_behinds 16 = .ok (.if_icmp .ge 43, 3) := by decide +kernel
theorem dX7_behinds_19 : decode cX7_behinds 19 = .ok (.aload_n 0, 1) := by decide +kernel
theorem dX7_behinds_20 : decode cX7_behinds 20 = .ok (.getfield 35, 3) := by decide +kernel
theorem dX7_behinds_23 : decode cX7_behinds 23 = .ok (.sipush 538, 3) := by decide +kernel
theorem dX7_behinds_26 : decode cX7_behinds 26 = .ok (.iload_n 3, 1) := by decide +kernel
theorem dX7_behinds_27 : decode cX7_behinds 27 = .ok (.iadd, 1) := by decide +kernel
theorem dX7_behinds_28 : decode cX7_behinds 28 = .ok (.iload_n 2, 1) := by decide +kernel
theorem dX7_behinds_29 : decode cX7_behinds 29 = .ok (.iload_n 3, 1) := by decide +kernel
theorem dX7_behinds_30 : decode cX7_behinds 30 = .ok (.ishr, 1) := by decide +kernel
theorem dX7_behinds_31 : decode cX7_behinds 31 = .ok (.iconst 1, 1) := by decide +kernel
theorem dX7_behinds_32 : decode cX7_behinds 32 = .ok (.iand, 1) := by decide +kernel
theorem dX7_behinds_33 : decode cX7_behinds 33 = .ok (.iconst 1, 1) := by decide +kernel
theorem dX7_behinds_34 : decode cX7_behinds 34 = .ok (.if_icmp .ne 8, 3) := by decide +kernel
theorem dX7_behinds_37 : decode cX7_behinds 37 = .ok (.bipush 100, 2) := by decide +kernel
theorem dX7_behinds_39 : decode cX7_behinds 39 = .ok (.goto 13, 3) := by decide +kernel
theorem dX7_behinds_42 : decode cX7_behinds 42 = .ok (.aload_n 0, 1) := by decide +kernel
theorem dX7_behinds_43 : decode cX7_behinds 43 = .ok (.getfield 35, 3) := by decide +kernel
theorem dX7_behinds_46 : decode cX7_behinds 46 = .ok (.sipush 538, 3) := by decide +kernel
theorem dX7_behinds_49 : decode cX7_behinds 49 = .ok (.iload_n 3, 1) := by decide +kernel
theorem dX7_behinds_50 : decode cX7_behinds 50 = .ok (.iadd, 1) := by decide +kernel
theorem dX7_behinds_51 : decode cX7_behinds 51 = .ok (.iaload, 1) := by decide +kernel
theorem dX7_behinds_52 : decode cX7_behinds 52 = .ok (.iastore, 1) := by decide +kernel
theorem dX7_behinds_53 : decode cX7_behinds 53 = .ok (.iinc 3 1, 3) := by decide +kernel
theorem dX7_behinds_56 : decode cX7_behinds 56 = .ok (.goto (-47), 3) := by decide +kernel
theorem dX7_behinds_59 : decode cX7_behinds 59 = .ok (.iconst 0, 1) := by decide +kernel
theorem dX7_behinds_60 : decode cX7_behinds 60 = .ok (.istore_n 3, 1) := by decide +kernel
theorem dX7_behinds_61 : decode cX7_behinds 61 = .ok (.iload_n 3, 1) := by decide +kernel
theorem dX7_behinds_62 : decode cX7_behinds 62 = .ok (.iload_n 1, 1) := by decide +kernel
theorem dX7_behinds_63 : decode cX7_behinds 63 = .ok (.if_icmp .ge 15, 3) := by decide +kernel
theorem dX7_behinds_66 : decode cX7_behinds 66 = .ok (.aload_n 0, 1) := by decide +kernel
theorem dX7_behinds_67 : decode cX7_behinds 67 = .ok (.bipush 11, 2) := by decide +kernel
theorem dX7_behinds_69 : decode cX7_behinds 69 = .ok (.invokevirtual 155, 3) := by decide +kernel
theorem dX7_behinds_72 : decode cX7_behinds 72 = .ok (.iinc 3 1, 3) := by decide +kernel
theorem dX7_behinds_75 : decode cX7_behinds 75 = .ok (.goto (-14), 3) := by decide +kernel
theorem dX7_behinds_78 : decode cX7_behinds 78 = .ok (.return_, 1) := by decide +kernel
set_option maxRecDepth 20000 in
theorem ggX7_isBehind_X7_in : GoodIn wsX7_isBehind wsX7_in := goodIn_r _ [5] (by decide +kernel) (by decide +kernel)
set_option maxRecDepth 20000 in
theorem gX7_isBehind_X7_in : GoodIn wsX7_isBehind (va_wsS RX7 61 yX7_in wsX7_in) := goodIn_app (goodIn_of _ (by decide +kernel)) ggX7_isBehind_X7_in
theorem dX7_isBehind_0 : decode cX7_isBehind 0 = .ok (.iload_n 0, 1) := by decide +kernel
theorem dX7_isBehind_1 : decode cX7_isBehind 1 = .ok (.i2l, 1) := by decide +kernel
theorem dX7_isBehind_2 : decode cX7_isBehind 2 = .ok (.lconst 0, 1) := by decide +kernel
theorem dX7_isBehind_3 : decode cX7_isBehind 3 = .ok (.ldc2_w 153, 3) := by decide +kernel
theorem dX7_isBehind_6 : decode cX7_isBehind 6 = .ok (.invokestatic 61, 3) := by decide +kernel
theorem dX7_isBehind_9 : decode cX7_isBehind 9 = .ok (.ireturn, 1) := by decide +kernel
set_option maxRecDepth 20000 in
theorem ggX7_behind_X7_isBehind : GoodIn wsX7_behind wsX7_isBehind := goodIn_r _ [5, 6, 7, 8, 4, 9] (by decide +kernel) (by decide +kernel)
set_option maxRecDepth 20000 in
theorem gX7_behind_X7_isBehind : GoodIn wsX7_behind (va_wsS RX7 187 yX7_isBehind wsX7_isBehind) := goodIn_app (goodIn_of _ (by decide +kernel)) ggX7_behind_X7_isBehind
set_option maxRecDepth 20000 in
theorem ggX7_behind_X7_isDoor : GoodIn wsX7_behind wsX7_isDoor := goodIn_r _ [13, 14, 7, 8, 4, 9, 36, 37, 38, 39, 40, 41, 42, 43, 44, 45, 46, 47, 48, 49, 50, 51, 52, 53, 54] (by decide +kernel) (by decide +kernel)
set_option maxRecDepth 20000 in
theorem gX7_behind_X7_isDoor : GoodIn wsX7_behind (wsV RX7 118 RX7 yX7_isDoor wsX7_isDoor) := goodIn_app (goodIn_of _ (by decide +kernel)) ggX7_behind_X7_isDoor
set_option maxRecDepth 20000 in
theorem ggX7_behind_X7_isLodger : GoodIn wsX7_behind wsX7_isLodger := goodIn_r _ [18, 19, 7, 8, 4, 9, 36, 37, 38, 39, 40, 41, 42, 43, 44, 45, 46, 47, 48, 49, 50, 51, 52, 53, 54] (by decide +kernel) (by decide +kernel)
set_option maxRecDepth 20000 in
theorem gX7_behind_X7_isLodger : GoodIn wsX7_behind (wsV RX7 123 RX7 yX7_isLodger wsX7_isLodger) := goodIn_app (goodIn_of _ (by decide +kernel)) ggX7_behind_X7_isLodger
set_option maxRecDepth 20000 in
theorem ggX7_behind_X7_behinds : GoodIn wsX7_behind wsX7_behinds := goodIn_r _ [23, 14, 1, 24, 25, 26, 4, 27, 28, 29, 30, 31, 32, 33, 19, 34, 35, 36, 37, 38, 39, 40, 41, 42, 43, 44, 45, 46, 47, 48, 49, 50, 51, 52, 53, 54] (by decide +kernel) (by decide +kernel)
set_option maxRecDepth 20000 in
theorem gX7_behind_X7_behinds : GoodIn wsX7_behind (wsV RX7 190 RX7 yX7_behinds wsX7_behinds) := goodIn_app (goodIn_of _ (by decide +kernel)) ggX7_behind_X7_behinds
theorem dX7_behind_0 : decode cX7_behind 0 = .ok (.iload_n 1, 1) := by decide +kernel
theorem dX7_behind_1 : decode cX7_behind 1 = .ok (.invokestatic 187, 3) := by decide +kernel
theorem dX7_behind_4 : decode cX7_behind 4 = .ok (.ifCond .eq 19, 3) := by decide +kernel
theorem dX7_behind_7 : decode cX7_behind 7 = .ok (.aload_n 0, 1) := by decide +kernel
theorem dX7_behind_8 : decode cX7_behind 8 = .ok (.iload_n 2, 1) := by decide +kernel
theorem dX7_behind_9 : decode cX7_behind 9 = .ok (.invokevirtual 118, 3) := by decide +kernel
theorem dX7_behind_12 : decode cX7_behind 12 = .ok (.ifCond .eq 11, 3) := by decide +kernel
theorem dX7_behind_15 : decode cX7_behind 15 = .ok (.aload_n 0, 1) := by decide +kernel
theorem dX7_behind_16 : decode cX7_behind 16 = .ok (.iload_n 3, 1) := by decide +kernel
theorem dX7_behind_17 : decode cX7_behind 17 = .ok (.invokevirtual 123, 3) := by decide +kernel
theorem dX7_behind_20 : decode cX7_behind 20 = .ok (.ifCond .ne 5, 3) := by decide +kernel
theorem dX7_behind_23 : decode cX7_behind 23 = .ok (.iconst (-1), 1) := by decide +kernel
theorem dX7_behind_24 : decode cX7_behind 24 = .ok (.ireturn, 1) := by decide +kernel
theorem dX7_behind_25 : decode cX7_behind 25 = .ok (.aload_n 0, 1) := by decide +kernel
theorem dX7_behind_26 : decode cX7_behind 26 = .ok (.iload_n 1, 1) := by decide +kernel
theorem dX7_behind_27 : decode cX7_behind 27 = .ok (.iconst 0, 1) := by decide +kernel
theorem dX7_behind_28 : decode cX7_behind 28 = .ok (.invokevirtual 190, 3) := by decide +kernel
theorem dX7_behind_31 : decode cX7_behind 31 = .ok (.aload_n 0, 1) := by decide +kernel
theorem dX7_behind_32 : decode cX7_behind 32 = .ok (.getfield 35, 3) := by decide +kernel
theorem dX7_behind_35 : decode cX7_behind 35 = .ok (.sipush 506, 3) := by decide +kernel
theorem dX7_behind_38 : decode cX7_behind 38 = .ok (.iconst 4, 1) := by decide +kernel
theorem dX7_behind_39 : decode cX7_behind 39 = .ok (.iload_n 2, 1) := by decide +kernel
theorem dX7_behind_40 : decode cX7_behind 40 = .ok (.imul, 1) := by decide +kernel
theorem dX7_behind_41 : decode cX7_behind 41 = .ok (.iadd, 1) := by decide +kernel
theorem dX7_behind_42 : decode cX7_behind 42 = .ok (.iload_n 3, 1) := by decide +kernel
theorem dX7_behind_43 : decode cX7_behind 43 = .ok (.iadd, 1) := by decide +kernel
theorem dX7_behind_44 : decode cX7_behind 44 = .ok (.iaload, 1) := by decide +kernel
theorem dX7_behind_45 : decode cX7_behind 45 = .ok (.ireturn, 1) := by decide +kernel
set_option maxRecDepth 20000 in
theorem ggX7_worst_X7_isBehind : GoodIn wsX7_worst wsX7_isBehind := goodIn_r _ [6, 7, 8, 9, 5, 10] (by decide +kernel) (by decide +kernel)
set_option maxRecDepth 20000 in
theorem gX7_worst_X7_isBehind : GoodIn wsX7_worst (va_wsS RX7 187 yX7_isBehind wsX7_isBehind) := goodIn_app (goodIn_of _ (by decide +kernel)) ggX7_worst_X7_isBehind
set_option maxRecDepth 20000 in
theorem ggX7_worst_X7_isLodger : GoodIn wsX7_worst wsX7_isLodger := goodIn_r _ [14, 15, 8, 9, 5, 10, 32, 33, 34, 35, 36, 37, 38, 39, 40, 41, 42, 43, 44, 45, 46, 47, 48, 49, 50] (by decide +kernel) (by decide +kernel)
set_option maxRecDepth 20000 in
theorem gX7_worst_X7_isLodger : GoodIn wsX7_worst (wsV RX7 123 RX7 yX7_isLodger wsX7_isLodger) := goodIn_app (goodIn_of _ (by decide +kernel)) ggX7_worst_X7_isLodger
set_option maxRecDepth 20000 in
theorem ggX7_worst_X7_behinds : GoodIn wsX7_worst wsX7_behinds := goodIn_r _ [19, 1, 2, 20, 21, 22, 5, 23, 24, 25, 26, 27, 28, 29, 15, 30, 31, 32, 33, 34, 35, 36, 37, 38, 39, 40, 41, 42, 43, 44, 45, 46, 47, 48, 49, 50] (by decide +kernel) (by decide +kernel)
set_option maxRecDepth 20000 in
theorem gX7_worst_X7_behinds : GoodIn wsX7_worst (wsV RX7 190 RX7 yX7_behinds wsX7_behinds) := goodIn_app (goodIn_of _ (by decide +kernel)) ggX7_worst_X7_behinds
theorem dX7_worst_0 : decode cX7_worst 0 = .ok (.iload_n 1, 1) := by decide +kernel
theorem dX7_worst_1 : decode cX7_worst 1 = .ok (.invokestatic 187, 3) := by decide +kernel
theorem dX7_worst_4 : decode cX7_worst 4 = .ok (.ifCond .eq 11, 3) := by decide +kernel
theorem dX7_worst_7 : decode cX7_worst 7 = .ok (.aload_n 0, 1) := by decide +kernel
theorem dX7_worst_8 : decode cX7_worst 8 = .ok (.iload_n 2, 1) := by decide +kernel
theorem dX7_worst_9 : decode cX7_worst 9 = .ok (.invokevirtual 123, 3) := by decide +kernel
theorem dX7_worst_12 : decode cX7_worst 12 = .ok (.ifCond .ne 5, 3) := by decide +kernel
theorem dX7_worst_15 : decode cX7_worst 15 = .ok (.iconst (-1), 1) := by decide +kernel
theorem dX7_worst_16 : decode cX7_worst 16 = .ok (.ireturn, 1) := by decide +kernel
theorem dX7_worst_17 : decode cX7_worst 17 = .ok (.aload_n 0, 1) := by decide +kernel
theorem dX7_worst_18 : decode cX7_worst 18 = .ok (.iload_n 1, 1) := by decide +kernel
theorem dX7_worst_19 : decode cX7_worst 19 = .ok (.iconst 0, 1) := by decide +kernel
theorem dX7_worst_20 : decode cX7_worst 20 = .ok (.invokevirtual 190, 3) := by decide +kernel
theorem dX7_worst_23 : decode cX7_worst 23 = .ok (.iconst 0, 1) := by decide +kernel
theorem dX7_worst_24 : decode cX7_worst 24 = .ok (.istore_n 3, 1) := by decide +kernel
theorem dX7_worst_25 : decode cX7_worst 25 = .ok (.iconst 1, 1) := by decide +kernel
theorem dX7_worst_26 : decode cX7_worst 26 = .ok (.istore 4, 2) := by decide +kernel
theorem dX7_worst_28 : decode cX7_worst 28 = .ok (.iload 4, 2) := by decide +kernel
theorem dX7_worst_30 : decode cX7_worst 30 = .ok (.aload_n 0, 1) := by decide +kernel
theorem dX7_worst_31 : decode cX7_worst 31 = .ok (.getfield 17, 3) := by decide +kernel
theorem dX7_worst_34 : decode cX7_worst 34 = .ok (.iconst 0, 1) := by decide +kernel
theorem dX7_worst_35 : decode cX7_worst 35 = .ok (.iaload, 1) := by decide +kernel
theorem dX7_worst_36 : decode cX7_worst 36 = .ok (.if_icmp .ge 48, 3) := by decide +kernel
theorem dX7_worst_39 : decode cX7_worst 39 = .ok (.aload_n 0, 1) := by decide +kernel
theorem dX7_worst_40 : decode cX7_worst 40 = .ok (.getfield 35, 3) := by decide +kernel
theorem dX7_worst_43 : decode cX7_worst 43 = .ok (.sipush 506, 3) := by decide +kernel
theorem dX7_worst_46 : decode cX7_worst 46 = .ok (.iconst 4, 1) := by decide +kernel
theorem dX7_worst_47 : decode cX7_worst 47 = .ok (.iload 4, 2) := by decide +kernel
theorem dX7_worst_49 : decode cX7_worst 49 = .ok (.imul, 1) := by decide +kernel
theorem dX7_worst_50 : decode cX7_worst 50 = .ok (.iadd, 1) := by decide +kernel
theorem dX7_worst_51 : decode cX7_worst 51 = .ok (.iload_n 2, 1) := by decide +kernel
theorem dX7_worst_52 : decode cX7_worst 52 = .ok (.iadd, 1) := by decide +kernel
theorem dX7_worst_53 : decode cX7_worst 53 = .ok (.iaload, 1) := by decide +kernel
theorem dX7_worst_54 : decode cX7_worst 54 = .ok (.aload_n 0, 1) := by decide +kernel
theorem dX7_worst_55 : decode cX7_worst 55 = .ok (.getfield 35, 3) := by decide +kernel
theorem dX7_worst_58 : decode cX7_worst 58 = .ok (.sipush 506, 3) := by decide +kernel
theorem dX7_worst_61 : decode cX7_worst 61 = .ok (.iconst 4, 1) := by decide +kernel
theorem dX7_worst_62 : decode cX7_worst 62 = .ok (.iload_n 3, 1) := by decide +kernel
theorem dX7_worst_63 : decode cX7_worst 63 = .ok (.imul, 1) := by decide +kernel
theorem dX7_worst_64 : decode cX7_worst 64 = .ok (.iadd, 1) := by decide +kernel
theorem dX7_worst_65 : decode cX7_worst 65 = .ok (.iload_n 2, 1) := by decide +kernel
theorem dX7_worst_66 : decode cX7_worst 66 = .ok (.iadd, 1) := by decide +kernel
theorem dX7_worst_67 : decode cX7_worst 67 = .ok (.iaload, 1) := by decide +kernel
theorem dX7_worst_68 : decode cX7_worst 68 = .ok (.if_icmp .le 8, 3) := by decide +kernel
theorem dX7_worst_71 : decode cX7_worst 71 = .ok (.iload 4, 2) := by decide +kernel
theorem dX7_worst_73 : decode cX7_worst 73 = .ok (.goto 4, 3) := by decide +kernel
theorem dX7_worst_76 : decode cX7_worst 76 = .ok (.iload_n 3, 1) := by decide +kernel
theorem dX7_worst_77 : decode cX7_worst 77 = .ok (.istore_n 3, 1) := by decide +kernel
theorem dX7_worst_78 : decode cX7_worst 78 = .ok (.iinc 4 1, 3) := by decide +kernel
theorem dX7_worst_81 : decode cX7_worst 81 = .ok (.goto (-53), 3) := by decide +kernel
theorem dX7_worst_84 : decode cX7_worst 84 = .ok (.iload_n 3, 1) := by decide +kernel
theorem dX7_worst_85 : decode cX7_worst 85 = .ok (.ireturn, 1) := by decide +kernel
set_option maxRecDepth 20000 in
theorem ggX7_stop_X7_isBehind : GoodIn wsX7_stop wsX7_isBehind := goodIn_r _ [7, 8, 9, 10, 6, 11] (by decide +kernel) (by decide +kernel)
set_option maxRecDepth 20000 in
theorem gX7_stop_X7_isBehind : GoodIn wsX7_stop (va_wsS RX7 187 yX7_isBehind wsX7_isBehind) := goodIn_app (goodIn_of _ (by decide +kernel)) ggX7_stop_X7_isBehind
set_option maxRecDepth 20000 in
theorem ggX7_stop_X7_isDoor : GoodIn wsX7_stop wsX7_isDoor := goodIn_r _ [15, 2, 9, 10, 6, 11, 40, 41, 42, 43, 44, 45, 46, 47, 48, 49, 50, 51, 52, 53, 54, 55, 56, 57, 58] (by decide +kernel) (by decide +kernel)
set_option maxRecDepth 20000 in
theorem gX7_stop_X7_isDoor : GoodIn wsX7_stop (wsV RX7 118 RX7 yX7_isDoor wsX7_isDoor) := goodIn_app (goodIn_of _ (by decide +kernel)) ggX7_stop_X7_isDoor
set_option maxRecDepth 20000 in
theorem ggX7_stop_X7_isLodger : GoodIn wsX7_stop wsX7_isLodger := goodIn_r _ [19, 20, 9, 10, 6, 11, 40, 41, 42, 43, 44, 45, 46, 47, 48, 49, 50, 51, 52, 53, 54, 55, 56, 57, 58] (by decide +kernel) (by decide +kernel)
set_option maxRecDepth 20000 in
theorem gX7_stop_X7_isLodger : GoodIn wsX7_stop (wsV RX7 123 RX7 yX7_isLodger wsX7_isLodger) := goodIn_app (goodIn_of _ (by decide +kernel)) ggX7_stop_X7_isLodger
set_option maxRecDepth 20000 in
theorem ggX7_stop_X7_in : GoodIn wsX7_stop wsX7_in := goodIn_r _ [11] (by decide +kernel) (by decide +kernel)
set_option maxRecDepth 20000 in
theorem gX7_stop_X7_in : GoodIn wsX7_stop (va_wsS RX7 61 yX7_in wsX7_in) := goodIn_app (goodIn_of _ (by decide +kernel)) ggX7_stop_X7_in
set_option maxRecDepth 20000 in
theorem ggX7_stop_X7_many : GoodIn wsX7_stop wsX7_many := goodIn_r _ [23] (by decide +kernel) (by decide +kernel)
set_option maxRecDepth 20000 in
theorem gX7_stop_X7_many : GoodIn wsX7_stop (va_wsS RX7 176 yX7_many wsX7_many) := goodIn_app (goodIn_of _ (by decide +kernel)) ggX7_stop_X7_many
set_option maxRecDepth 20000 in
theorem ggX7_stop_X7_behinds : GoodIn wsX7_stop wsX7_behinds := goodIn_r _ [27, 2, 3, 28, 29, 30, 6, 31, 32, 33, 34, 35, 36, 37, 20, 38, 39, 40, 41, 42, 43, 44, 45, 46, 47, 48, 49, 50, 51, 52, 53, 54, 55, 56, 57, 58] (by decide +kernel) (by decide +kernel)
set_option maxRecDepth 20000 in
theorem gX7_stop_X7_behinds : GoodIn wsX7_stop (wsV RX7 190 RX7 yX7_behinds wsX7_behinds) := goodIn_app (goodIn_of _ (by decide +kernel)) ggX7_stop_X7_behinds
theorem dX7_stop_0 : decode cX7_stop 0 = .ok (.iload_n 1, 1) := by decide +kernel
theorem dX7_stop_1 : decode cX7_stop 1 = .ok (.invokestatic 187, 3) := by decide +kernel
theorem dX7_stop_4 : decode cX7_stop 4 = .ok (.ifCond .eq 32, 3) := by decide +kernel
theorem dX7_stop_7 : decode cX7_stop 7 = .ok (.aload_n 0, 1) := by decide +kernel
theorem dX7_stop_8 : decode cX7_stop 8 = .ok (.iload_n 2, 1) := by decide +kernel
theorem dX7_stop_9 : decode cX7_stop 9 = .ok (.invokevirtual 118, 3) := by decide +kernel
theorem dX7_stop_12 : decode cX7_stop 12 = .ok (.ifCond .eq 24, 3) := by decide +kernel
theorem dX7_stop_15 : decode cX7_stop 15 = .ok (.aload_n 0, 1) := by decide +kernel
theorem dX7_stop_16 : decode cX7_stop 16 = .ok (.iload_n 3, 1) := by decide +kernel
theorem dX7_stop_17 : decode cX7_stop 17 = .ok (.invokevirtual 123, 3) := by decide +kernel
theorem dX7_stop_20 : decode cX7_stop 20 = .ok (.ifCond .eq 16, 3) := by decide +kernel
theorem dX7_stop_23 : decode cX7_stop 23 = .ok (.iload 4, 2) := by decide +kernel
theorem dX7_stop_25 : decode cX7_stop 25 = .ok (.i2l, 1) := by decide +kernel
theorem dX7_stop_26 : decode cX7_stop 26 = .ok (.lconst 1, 1) := by decide +kernel
theorem dX7_stop_27 : decode cX7_stop 27 = .ok (.ldc2_w 193, 3) := by decide +kernel
theorem dX7_stop_30 : decode cX7_stop 30 = .ok (.invokestatic 61, 3) := by decide +kernel
theorem dX7_stop_33 : decode cX7_stop 33 = .ok (.ifCond .ne 5, 3) := by decide +kernel
theorem dX7_stop_36 : decode cX7_stop 36 = .ok (.iconst (-1), 1) := by decide +kernel
theorem dX7_stop_37 : decode cX7_stop 37 = .ok (.ireturn, 1) := by decide +kernel
theorem dX7_stop_38 : decode cX7_stop 38 = .ok (.bipush (-4), 2) := by decide +kernel
theorem dX7_stop_40 : decode cX7_stop 40 = .ok (.istore 5, 2) := by decide +kernel
theorem dX7_stop_42 : decode cX7_stop 42 = .ok (.iconst 0, 1) := by decide +kernel
theorem dX7_stop_43 : decode cX7_stop 43 = .ok (.istore 6, 2) := by decide +kernel
theorem dX7_stop_45 : decode cX7_stop 45 = .ok (.iload 6, 2) := by decide +kernel
theorem dX7_stop_47 : decode cX7_stop 47 = .ok (.iconst 1, 1) := by decide +kernel
theorem dX7_stop_48 : decode cX7_stop 48 = .ok (.aload_n 0, 1) := by decide +kernel
theorem dX7_stop_49 : decode cX7_stop 49 = .ok (.getfield 17, 3) := by decide +kernel
theorem dX7_stop_52 : decode cX7_stop 52 = .ok (.iconst 0, 1) := by decide +kernel
theorem dX7_stop_53 : decode cX7_stop 53 = .ok (.iaload, 1) := by decide +kernel
theorem dX7_stop_54 : decode cX7_stop 54 = .ok (.ishl, 1) := by decide +kernel
theorem dX7_stop_55 : decode cX7_stop 55 = .ok (.if_icmp .ge 71, 3) := by decide +kernel
theorem dX7_stop_58 : decode cX7_stop 58 = .ok (.iload 6, 2) := by decide +kernel
theorem dX7_stop_60 : decode cX7_stop 60 = .ok (.iload_n 2, 1) := by decide +kernel
theorem dX7_stop_61 : decode cX7_stop 61 = .ok (.ishr, 1) := by decide +kernel
theorem dX7_stop_62 : decode cX7_stop 62 = .ok (.iconst 1, 1) := by decide +kernel
theorem dX7_stop_63 : decode cX7_stop 63 = .ok (.iand, 1) := by decide +kernel
theorem dX7_stop_64 : decode cX7_stop 64 = .ok (.ifCond .ne 56, 3) := by decide +kernel
theorem dX7_stop_67 : decode cX7_stop 67 = .ok (.iload 5, 2) := by decide +kernel
theorem dX7_stop_69 : decode cX7_stop 69 = .ok (.ifCond .lt 16, 3) := by decide +kernel
theorem dX7_stop_72 : decode cX7_stop 72 = .ok (.iload 6, 2) := by decide +kernel
theorem dX7_stop_74 : decode cX7_stop 74 = .ok (.invokestatic 176, 3) := by decide +kernel
theorem dX7_stop_77 : decode cX7_stop 77 = .ok (.iload 5, 2) := by decide +kernel
theorem dX7_stop_79 : decode cX7_stop 79 = .ok (.invokestatic 176, 3) := by decide +kernel
theorem dX7_stop_82 : decode cX7_stop 82 = .ok (.if_icmp .ge 38, 3) := by decide +kernel
theorem dX7_stop_85 : decode cX7_stop 85 = .ok (.aload_n 0, 1) := by decide +kernel
theorem dX7_stop_86 : decode cX7_stop 86 = .ok (.iload_n 1, 1) := by decide +kernel
theorem dX7_stop_87 : decode cX7_stop 87 = .ok (.iload 6, 2) := by decide +kernel
theorem dX7_stop_89 : decode cX7_stop 89 = .ok (.invokevirtual 190, 3) := by decide +kernel
theorem dX7_stop_92 : decode cX7_stop 92 = .ok (.aload_n 0, 1) := by decide +kernel
theorem dX7_stop_93 : decode cX7_stop 93 = .ok (.getfield 35, 3) := by decide +kernel
theorem dX7_stop_96 : decode cX7_stop 96 = .ok (.sipush 506, 3) := by decide +kernel
theorem dX7_stop_99 : decode cX7_stop 99 = .ok (.iconst 4, 1) := by decide +kernel
theorem dX7_stop_100 : decode cX7_stop 100 = .ok (.iload_n 2, 1) := by decide +kernel
theorem dX7_stop_101 : decode cX7_stop 101 = .ok (.imul, 1) := by decide +kernel
theorem dX7_stop_102 : decode cX7_stop 102 = .ok (.iadd, 1) := by decide +kernel
theorem dX7_stop_103 : decode cX7_stop 103 = .ok (.iload_n 3, 1) := by decide +kernel
theorem dX7_stop_104 : decode cX7_stop 104 = .ok (.iadd, 1) := by decide +kernel
theorem dX7_stop_105 : decode cX7_stop 105 = .ok (.iaload, 1) := by decide +kernel
theorem dX7_stop_106 : decode cX7_stop 106 = .ok (.iload 4, 2) := by decide +kernel
theorem dX7_stop_108 : decode cX7_stop 108 = .ok (.if_icmp .ge 8, 3) := by decide +kernel
theorem dX7_stop_111 : decode cX7_stop 111 = .ok (.iload 6, 2) := by decide +kernel
theorem dX7_stop_113 : decode cX7_stop 113 = .ok (.goto 5, 3) := by decide +kernel
theorem dX7_stop_116 : decode cX7_stop 116 = .ok (.iload 5, 2) := by decide +kernel
theorem dX7_stop_118 : decode cX7_stop 118 = .ok (.istore 5, 2) := by decide +kernel
theorem dX7_stop_120 : decode cX7_stop 120 = .ok (.iinc 6 1, 3) := by decide +kernel
theorem dX7_stop_123 : decode cX7_stop 123 = .ok (.goto (-78), 3) := by decide +kernel
theorem dX7_stop_126 : decode cX7_stop 126 = .ok (.iload 5, 2) := by decide +kernel
theorem dX7_stop_128 : decode cX7_stop 128 = .ok (.ireturn, 1) := by decide +kernel
set_option maxRecDepth 20000 in
theorem ggX7_how_X7_isLodger : GoodIn wsX7_how wsX7_isLodger := goodIn_r _ [8, 9, 10, 11, 7, 12, 27, 28, 29, 30, 31, 32, 33, 34, 35, 36, 37, 38, 39, 40, 41, 42, 43, 44, 45] (by decide +kernel) (by decide +kernel)
set_option maxRecDepth 20000 in
theorem gX7_how_X7_isLodger : GoodIn wsX7_how (wsV RX7 123 RX7 yX7_isLodger wsX7_isLodger) := goodIn_app (goodIn_of _ (by decide +kernel)) ggX7_how_X7_isLodger
set_option maxRecDepth 20000 in
theorem ggX7_how_X7_isDoor : GoodIn wsX7_how wsX7_isDoor := goodIn_r _ [16, 17, 10, 11, 7, 12, 27, 28, 29, 30, 31, 32, 33, 34, 35, 36, 37, 38, 39, 40, 41, 42, 43, 44, 45] (by decide +kernel) (by decide +kernel)
set_option maxRecDepth 20000 in
theorem gX7_how_X7_isDoor : GoodIn wsX7_how (wsV RX7 118 RX7 yX7_isDoor wsX7_isDoor) := goodIn_app (goodIn_of _ (by decide +kernel)) ggX7_how_X7_isDoor
set_option maxRecDepth 20000 in
theorem ggX7_how_X7_in : GoodIn wsX7_how wsX7_in := goodIn_r _ [12] (by decide +kernel) (by decide +kernel)
set_option maxRecDepth 20000 in
theorem gX7_how_X7_in : GoodIn wsX7_how (va_wsS RX7 61 yX7_in wsX7_in) := goodIn_app (goodIn_of _ (by decide +kernel)) ggX7_how_X7_in
set_option maxRecDepth 20000 in
theorem ggX7_how_X7_becomes : GoodIn wsX7_how wsX7_becomes := goodIn_r _ [21, 22, 23, 27, 28, 29, 30, 31, 32, 33, 34, 35, 36, 37, 38, 39, 40, 41, 42, 43, 44, 45] (by decide +kernel) (by decide +kernel)
set_option maxRecDepth 20000 in
theorem gX7_how_X7_becomes : GoodIn wsX7_how (wsV RX7 134 RX7 yX7_becomes wsX7_becomes) := goodIn_app (goodIn_of _ (by decide +kernel)) ggX7_how_X7_becomes
set_option maxRecDepth 20000 in
theorem ggX7_how_X7_many : GoodIn wsX7_how wsX7_many := goodIn_r _ [26] (by decide +kernel) (by decide +kernel)
set_option maxRecDepth 20000 in
theorem gX7_how_X7_many : GoodIn wsX7_how (va_wsS RX7 176 yX7_many wsX7_many) := goodIn_app (goodIn_of _ (by decide +kernel)) ggX7_how_X7_many
theorem dX7_how_0 : decode cX7_how 0 = .ok (.aload_n 0, 1) := by decide +kernel
theorem dX7_how_1 : decode cX7_how 1 = .ok (.iload_n 1, 1) := by decide +kernel
theorem dX7_how_2 : decode cX7_how 2 = .ok (.invokevirtual 123, 3) := by decide +kernel
theorem dX7_how_5 : decode cX7_how 5 = .ok (.ifCond .eq 47, 3) := by decide +kernel
theorem dX7_how_8 : decode cX7_how 8 = .ok (.aload_n 0, 1) := by decide +kernel
theorem dX7_how_9 : decode cX7_how 9 = .ok (.iload_n 2, 1) := by decide +kernel
theorem dX7_how_10 : decode cX7_how 10 = .ok (.invokevirtual 118, 3) := by decide +kernel
theorem dX7_how_13 : decode cX7_how 13 = .ok (.ifCond .eq 39, 3) := by decide +kernel
theorem dX7_how_16 : decode cX7_how 16 = .ok (.iload_n 3, 1) := by decide +kernel
theorem dX7_how_17 : decode cX7_how 17 = .ok (.i2l, 1) := by decide +kernel
theorem dX7_how_18 : decode cX7_how 18 = .ok (.lconst 0, 1) := by decide +kernel
theorem dX7_how_19 : decode cX7_how 19 = .ok (.ldc2_w 59, 3) := by decide +kernel
theorem dX7_how_22 : decode cX7_how 22 = .ok (.invokestatic 61, 3) := by decide +kernel
theorem dX7_how_25 : decode cX7_how 25 = .ok (.ifCond .eq 27, 3) := by decide +kernel
theorem dX7_how_28 : decode cX7_how 28 = .ok (.iload 4, 2) := by decide +kernel
theorem dX7_how_30 : decode cX7_how 30 = .ok (.i2l, 1) := by decide +kernel
theorem dX7_how_31 : decode cX7_how 31 = .ok (.lconst 1, 1) := by decide +kernel
theorem dX7_how_32 : decode cX7_how 32 = .ok (.ldc2_w 195, 3) := by decide +kernel
theorem dX7_how_35 : decode cX7_how 35 = .ok (.invokestatic 61, 3) := by decide +kernel
theorem dX7_how_38 : decode cX7_how 38 = .ok (.ifCond .eq 14, 3) := by decide +kernel
theorem dX7_how_41 : decode cX7_how 41 = .ok (.iload 5, 2) := by decide +kernel
theorem dX7_how_43 : decode cX7_how 43 = .ok (.i2l, 1) := by decide +kernel
theorem dX7_how_44 : decode cX7_how 44 = .ok (.lconst 0, 1) := by decide +kernel
theorem dX7_how_45 : decode cX7_how 45 = .ok (.lconst 1, 1) := by decide +kernel
theorem dX7_how_46 : decode cX7_how 46 = .ok (.invokestatic 61, 3) := by decide +kernel
theorem dX7_how_49 : decode cX7_how 49 = .ok (.ifCond .ne 5, 3) := by decide +kernel
theorem dX7_how_52 : decode cX7_how 52 = .ok (.iconst (-1), 1) := by decide +kernel
theorem dX7_how_53 : decode cX7_how 53 = .ok (.ireturn, 1) := by decide +kernel
theorem dX7_how_54 : decode cX7_how 54 = .ok (.iconst 0, 1) := by decide +kernel
theorem dX7_how_55 : decode cX7_how 55 = .ok (.istore 6, 2) := by decide +kernel
theorem dX7_how_57 : decode cX7_how 57 = .ok (.bipush (-4), 2) := by decide +kernel
theorem dX7_how_59 : decode cX7_how 59 = .ok (.istore 7, 2) := by decide +kernel
theorem dX7_how_61 : decode cX7_how 61 = .ok (.iconst 0, 1) := by decide +kernel
theorem dX7_how_62 : decode cX7_how 62 = .ok (.istore 8, 2) := by decide +kernel
theorem dX7_how_64 : decode cX7_how 64 = .ok (.iload 8, 2) := by decide +kernel
theorem dX7_how_66 : decode cX7_how 66 = .ok (.iconst 1, 1) := by decide +kernel
theorem dX7_how_67 : decode cX7_how 67 = .ok (.iload_n 3, 1) := by decide +kernel
theorem dX7_how_68 : decode cX7_how 68 = .ok (.ishl, 1) := by decide +kernel
theorem dX7_how_69 : decode cX7_how 69 = .ok (.if_icmp .ge 100, 3) := by decide +kernel
theorem dX7_how_72 : decode cX7_how 72 = .ok (.aload_n 0, 1) := by decide +kernel
theorem dX7_how_73 : decode cX7_how 73 = .ok (.getfield 32, 3) := by decide +kernel
theorem dX7_how_76 : decode cX7_how 76 = .ok (.iconst 4, 1) := by decide +kernel
theorem dX7_how_77 : decode cX7_how 77 = .ok (.iload_n 2, 1) := by decide +kernel
theorem dX7_how_78 : decode cX7_how 78 = .ok (.imul, 1) := by decide +kernel
theorem dX7_how_79 : decode cX7_how 79 = .ok (.iload_n 1, 1) := by decide +kernel
theorem dX7_how_80 : decode cX7_how 80 = .ok (.iadd, 1) := by decide +kernel
theorem dX7_how_81 : decode cX7_how 81 = .ok (.iaload, 1) := by decide +kernel
theorem dX7_how_82 : decode cX7_how 82 = .ok (.istore 9, 2) := by decide +kernel
theorem dX7_how_84 : decode cX7_how 84 = .ok (.iconst 0, 1) := by decide +kernel
theorem dX7_how_85 : decode cX7_how 85 = .ok (.istore 10, 2) := by decide +kernel
theorem dX7_how_87 : decode cX7_how 87 = .ok (.iload 10, 2) := by decide +kernel
theorem dX7_how_89 : decode cX7_how 89 = .ok (.iload_n 3, 1) := by decide +kernel
theorem dX7_how_90 : decode cX7_how 90 = .ok (.if_icmp .ge 34, 3) := by decide +kernel
theorem dX7_how_93 : decode cX7_how 93 = .ok (.aload_n 0, 1) := by decide +kernel
theorem dX7_how_94 : decode cX7_how 94 = .ok (.iload_n 1, 1) := by decide +kernel
theorem dX7_how_95 : decode cX7_how 95 = .ok (.iload 9, 2) := by decide +kernel
theorem dX7_how_97 : decode cX7_how 97 = .ok (.iload 8, 2) := by decide +kernel
theorem dX7_how_99 : decode cX7_how 99 = .ok (.iload 10, 2) := by decide +kernel
theorem dX7_how_101 : decode cX7_how 101 = .ok (.ishr, 1) := by decide +kernel
theorem dX7_how_102 : decode cX7_how 102 = .ok (.iconst 1, 1) := by decide +kernel
theorem dX7_how_103 : decode cX7_how 103 = .ok (.iand, 1) := by decide +kernel
theorem dX7_how_104 : decode cX7_how 104 = .ok (.iconst 1, 1) := by decide +kernel
theorem dX7_how_105 : decode cX7_how 105 = .ok (.if_icmp .ne 7, 3) := by decide +kernel
theorem dX7_how_108 : decode cX7_how 108 = .ok (.iconst 1, 1) := by decide +kernel
theorem dX7_how_109 : decode cX7_how 109 = .ok (.goto 4, 3) := by decide +kernel
theorem dX7_how_112 : decode cX7_how 112 = .ok (.iconst 0, 1) := by decide +kernel
theorem dX7_how_113 : decode cX7_how 113 = .ok (.invokevirtual 134, 3) := by decide +kernel
theorem dX7_how_116 : decode cX7_how 116 = .ok (.istore 9, 2) := by decide +kernel
theorem dX7_how_118 : decode cX7_how 118 = .ok (.iinc 10 1, 3) := by decide +kernel
theorem dX7_how_121 : decode cX7_how 121 = .ok (.goto (-34), 3) := by decide +kernel
theorem dX7_how_124 : decode cX7_how 124 = .ok (.iload 9, 2) := by decide +kernel
theorem dX7_how_126 : decode cX7_how 126 = .ok (.iconst 1, 1) := by decide +kernel
theorem dX7_how_127 : decode cX7_how 127 = .ok (.iadd, 1) := by decide +kernel
theorem dX7_how_128 : decode cX7_how 128 = .ok (.iload 4, 2) := by decide +kernel
theorem dX7_how_130 : decode cX7_how 130 = .ok (.if_icmp .ne 33, 3) := by decide +kernel
theorem dX7_how_133 : decode cX7_how 133 = .ok (.iinc 6 1, 3) := by decide +kernel
theorem dX7_how_136 : decode cX7_how 136 = .ok (.iload 7, 2) := by decide +kernel
theorem dX7_how_138 : decode cX7_how 138 = .ok (.ifCond .lt 13, 3) := by decide +kernel
theorem dX7_how_141 : decode cX7_how 141 = .ok (.iload 8, 2) := by decide +kernel
theorem dX7_how_143 : decode cX7_how 143 = .ok (.invokestatic 176, 3) := by decide +kernel
theorem dX7_how_146 : decode cX7_how 146 = .ok (.iload 7, 2) := by decide +kernel
theorem dX7_how_148 : decode cX7_how 148 = .ok (.if_icmp .ge 11, 3) := by decide +kernel
theorem dX7_how_151 : decode cX7_how 151 = .ok (.iload 8, 2) := by decide +kernel
theorem dX7_how_153 : decode cX7_how 153 = .ok (.invokestatic 176, 3) := by decide +kernel
theorem dX7_how_156 : decode cX7_how 156 = .ok (.goto 5, 3) := by decide +kernel
theorem dX7_how_159 : decode cX7_how 159 = .ok (.iload 7, 2) := by decide +kernel
theorem dX7_how_161 : decode cX7_how 161 = .ok (.istore 7, 2) := by decide +kernel
theorem dX7_how_163 : decode cX7_how 163 = .ok (.iinc 8 1, 3) := by decide +kernel
theorem dX7_how_166 : decode cX7_how 166 = .ok (.goto (-102), 3) := by decide +kernel
theorem dX7_how_169 : decode cX7_how 169 = .ok (.iload 5, 2) := by decide +kernel
theorem dX7_how_171 : decode cX7_how 171 = .ok (.ifCond .ne 8, 3) := by decide +kernel
theorem dX7_how_174 : decode cX7_how 174 = .ok (.iload 6, 2) := by decide +kernel
theorem dX7_how_176 : decode cX7_how 176 = .ok (.goto 5, 3) := by decide +kernel
theorem dX7_how_179 : decode cX7_how 179 = .ok (.iload 7, 2) := by decide +kernel
theorem dX7_how_181 : decode cX7_how 181 = .ok (.ireturn, 1) := by decide +kernel
theorem dX7_news_0 : decode cX7_news 0 = .ok (.iconst 0, 1) := by decide +kernel
theorem dX7_news_1 : decode cX7_news 1 = .ok (.istore_n 2, 1) := by decide +kernel
theorem dX7_news_2 : decode cX7_news 2 = .ok (.iconst 0, 1) := by decide +kernel
theorem dX7_news_3 : decode cX7_news 3 = .ok (.istore_n 3, 1) := by decide +kernel
theorem dX7_news_4 : decode cX7_news 4 = .ok (.iload_n 3, 1) := by decide +kernel
theorem dX7_news_5 : decode cX7_news 5 = .ok (.aload_n 0, 1) := by decide +kernel
theorem dX7_news_6 : decode cX7_news 6 = .ok (.getfield 26, 3) := by decide +kernel
theorem dX7_news_9 : decode cX7_news 9 = .ok (.iconst 0, 1) := by decide +kernel
theorem dX7_news_10 : decode cX7_news 10 = .ok (.iaload, 1) := by decide +kernel
theorem dX7_news_11 : decode cX7_news 11 = .ok (.if_icmp .ge 22, 3) := by decide +kernel
theorem dX7_news_14 : decode cX7_news 14 = .ok (.iload_n 2, 1) := by decide +kernel
theorem dX7_news_15 : decode cX7_news 15 = .ok (.aload_n 0, 1) := by decide +kernel
theorem dX7_news_16 : decode cX7_news 16 = .ok (.getfield 35, 3) := by decide +kernel
theorem dX7_news_19 : decode cX7_news 19 = .ok (.iconst 4, 1) := by decide +kernel
theorem dX7_news_20 : decode cX7_news 20 = .ok (.iload_n 1, 1) := by decide +kernel
theorem dX7_news_21 : decode cX7_news 21 = .ok (.imul, 1) := by decide +kernel
theorem dX7_news_22 : decode cX7_news 22 = .ok (.iload_n 3, 1) := by decide +kernel
theorem dX7_news_23 : decode cX7_news 23 = .ok (.iadd, 1) := by decide +kernel
theorem dX7_news_24 : decode cX7_news 24 = .ok (.iaload, 1) := by decide +kernel
theorem dX7_news_25 : decode cX7_news 25 = .ok (.iadd, 1) := by decide +kernel
theorem dX7_news_26 : decode cX7_news 26 = .ok (.istore_n 2, 1) := by decide +kernel
theorem dX7_news_27 : decode cX7_news 27 = .ok (.iinc 3 1, 3) := by decide +kernel
theorem dX7_news_30 : decode cX7_news 30 = .ok (.goto (-26), 3) := by decide +kernel
theorem dX7_news_33 : decode cX7_news 33 = .ok (.iload_n 2, 1) := by decide +kernel
theorem dX7_news_34 : decode cX7_news 34 = .ok (.aload_n 0, 1) := by decide +kernel
theorem dX7_news_35 : decode cX7_news 35 = .ok (.getfield 26, 3) := by decide +kernel
theorem dX7_news_38 : decode cX7_news 38 = .ok (.iconst 0, 1) := by decide +kernel
theorem dX7_news_39 : decode cX7_news 39 = .ok (.iaload, 1) := by decide +kernel
theorem dX7_news_40 : decode cX7_news 40 = .ok (.idiv, 1) := by decide +kernel
theorem dX7_news_41 : decode cX7_news 41 = .ok (.ireturn, 1) := by decide +kernel
set_option maxRecDepth 20000 in
theorem ggX7_fresh_X7_news : GoodIn wsX7_fresh wsX7_news := goodIn_r _ [6, 7, 8, 16, 17, 18, 19, 20, 21, 22, 23, 24, 25, 26, 27, 28, 29, 30, 31, 32, 33, 34] (by decide +kernel) (by decide +kernel)
set_option maxRecDepth 20000 in
theorem gX7_fresh_X7_news : GoodIn wsX7_fresh (wsV RX7 197 RX7 yX7_news wsX7_news) := goodIn_app (goodIn_of _ (by decide +kernel)) ggX7_fresh_X7_news
set_option maxRecDepth 20000 in
theorem ggX7_fresh_X7_isDoor : GoodIn wsX7_fresh wsX7_isDoor := goodIn_r _ [12, 1, 13, 14, 5, 15, 16, 17, 18, 19, 20, 21, 22, 23, 24, 25, 26, 27, 28, 29, 30, 31, 32, 33, 34] (by decide +kernel) (by decide +kernel)
set_option maxRecDepth 20000 in
theorem gX7_fresh_X7_isDoor : GoodIn wsX7_fresh (wsV RX7 118 RX7 yX7_isDoor wsX7_isDoor) := goodIn_app (goodIn_of _ (by decide +kernel)) ggX7_fresh_X7_isDoor
theorem dX7_fresh_0 : decode cX7_fresh 0 = .ok (.iload_n 1, 1) := by decide +kernel
theorem dX7_fresh_1 : decode cX7_fresh 1 = .ok (.iconst (-1), 1) := by decide +kernel
theorem dX7_fresh_2 : decode cX7_fresh 2 = .ok (.if_icmp .ne 44, 3) := by decide +kernel
theorem dX7_fresh_5 : decode cX7_fresh 5 = .ok (.iconst 0, 1) := by decide +kernel
theorem dX7_fresh_6 : decode cX7_fresh 6 = .ok (.istore_n 2, 1) := by decide +kernel
theorem dX7_fresh_7 : decode cX7_fresh 7 = .ok (.iconst 1, 1) := by decide +kernel
theorem dX7_fresh_8 : decode cX7_fresh 8 = .ok (.istore_n 3, 1) := by decide +kernel
theorem dX7_fresh_9 : decode cX7_fresh 9 = .ok (.iload_n 3, 1) := by decide +kernel
theorem dX7_fresh_10 : decode cX7_fresh 10 = .ok (.aload_n 0, 1) := by decide +kernel
theorem dX7_fresh_11 : decode cX7_fresh 11 = .ok (.getfield 17, 3) := by decide +kernel
theorem dX7_fresh_14 : decode cX7_fresh 14 = .ok (.iconst 0, 1) := by decide +kernel
theorem dX7_fresh_15 : decode cX7_fresh 15 = .ok (.iaload, 1) := by decide +kernel
theorem dX7_fresh_16 : decode cX7_fresh 16 = .ok (.if_icmp .ge 28, 3) := by decide +kernel
theorem dX7_fresh_19 : decode cX7_fresh 19 = .ok (.aload_n 0, 1) := by decide +kernel
theorem dX7_fresh_20 : decode cX7_fresh 20 = .ok (.iload_n 3, 1) := by decide +kernel
theorem dX7_fresh_21 : decode cX7_fresh 21 = .ok (.invokevirtual 197, 3) := by decide +kernel
theorem dX7_fresh_24 : decode cX7_fresh 24 = .ok (.aload_n 0, 1) := by decide +kernel
theorem dX7_fresh_25 : decode cX7_fresh 25 = .ok (.iload_n 2, 1) := by decide +kernel
theorem dX7_fresh_26 : decode cX7_fresh 26 = .ok (.invokevirtual 197, 3) := by decide +kernel
theorem dX7_fresh_29 : decode cX7_fresh 29 = .ok (.if_icmp .ge 7, 3) := by decide +kernel
theorem dX7_fresh_32 : decode cX7_fresh 32 = .ok (.iload_n 3, 1) := by decide +kernel
theorem dX7_fresh_33 : decode cX7_fresh 33 = .ok (.goto 4, 3) := by decide +kernel
theorem dX7_fresh_36 : decode cX7_fresh 36 = .ok (.iload_n 2, 1) := by decide +kernel
theorem dX7_fresh_37 : decode cX7_fresh 37 = .ok (.istore_n 2, 1) := by decide +kernel
theorem dX7_fresh_38 : decode cX7_fresh 38 = .ok (.iinc 3 1, 3) := by decide +kernel
theorem dX7_fresh_41 : decode cX7_fresh 41 = .ok (.goto (-32), 3) := by decide +kernel
theorem dX7_fresh_44 : decode cX7_fresh 44 = .ok (.iload_n 2, 1) := by decide +kernel
theorem dX7_fresh_45 : decode cX7_fresh 45 = .ok (.ireturn, 1) := by decide +kernel
theorem dX7_fresh_46 : decode cX7_fresh 46 = .ok (.aload_n 0, 1) := by decide +kernel
theorem dX7_fresh_47 : decode cX7_fresh 47 = .ok (.iload_n 1, 1) := by decide +kernel
theorem dX7_fresh_48 : decode cX7_fresh 48 = .ok (.invokevirtual 118, 3) := by decide +kernel
theorem dX7_fresh_51 : decode cX7_fresh 51 = .ok (.ifCond .eq 11, 3) := by decide +kernel
theorem dX7_fresh_54 : decode cX7_fresh 54 = .ok (.aload_n 0, 1) := by decide +kernel
theorem dX7_fresh_55 : decode cX7_fresh 55 = .ok (.iload_n 1, 1) := by decide +kernel
theorem dX7_fresh_56 : decode cX7_fresh 56 = .ok (.invokevirtual 197, 3) := by decide +kernel
theorem dX7_fresh_59 : decode cX7_fresh 59 = .ok (.goto 4, 3) := by decide +kernel
theorem dX7_fresh_62 : decode cX7_fresh 62 = .ok (.iconst (-1), 1) := by decide +kernel
theorem dX7_fresh_63 : decode cX7_fresh 63 = .ok (.ireturn, 1) := by decide +kernel
set_option maxRecDepth 20000 in
theorem ggX7_walks_X7_firstOf : GoodIn wsX7_walks wsX7_firstOf := goodIn_r _ [6, 7, 8, 9, 10, 11, 5, 12, 13, 14, 15, 16, 17, 18, 19, 20, 21, 22, 1, 23, 24, 25, 26, 27, 28, 29, 30, 41, 42, 43, 44, 45, 46, 47, 48, 49, 50, 51, 52, 53, 54, 55, 56, 57, 58, 59] (by decide +kernel) (by decide +kernel)
set_option maxRecDepth 20000 in
theorem gX7_walks_X7_firstOf : GoodIn wsX7_walks (wsV RX7 171 RX7 yX7_firstOf wsX7_firstOf) := goodIn_app (goodIn_of _ (by decide +kernel)) ggX7_walks_X7_firstOf
set_option maxRecDepth 20000 in
theorem ggX7_walks_X7_goes : GoodIn wsX7_walks wsX7_goes := goodIn_r _ [34, 1, 19, 20, 21, 5, 22, 35, 36, 37, 38, 39, 40, 27, 28, 29, 30, 18, 41, 42, 43, 44, 45, 46, 47, 48, 49, 50, 51, 52, 53, 54, 55, 56, 57, 58, 59] (by decide +kernel) (by decide +kernel)
set_option maxRecDepth 20000 in
theorem gX7_walks_X7_goes : GoodIn wsX7_walks (wsV RX7 149 RX7 yX7_goes wsX7_goes) := goodIn_app (goodIn_of _ (by decide +kernel)) ggX7_walks_X7_goes
theorem dX7_walks_0 : decode cX7_walks 0 = .ok (.aload_n 0, 1) := by decide +kernel
theorem dX7_walks_1 : decode cX7_walks 1 = .ok (.bipush 11, 2) := by decide +kernel
theorem dX7_walks_3 : decode cX7_walks 3 = .ok (.iload_n 1, 1) := by decide +kernel
theorem dX7_walks_4 : decode cX7_walks 4 = .ok (.aload_n 0, 1) := by decide +kernel
theorem dX7_walks_5 : decode cX7_walks 5 = .ok (.getfield 35, 3) := by decide +kernel
theorem dX7_walks_8 : decode cX7_walks 8 = .ok (.sipush 546, 3) := by decide +kernel
theorem dX7_walks_11 : decode cX7_walks 11 = .ok (.iload_n 1, 1) := by decide +kernel
theorem dX7_walks_12 : decode cX7_walks 12 = .ok (.iadd, 1) := by decide +kernel
theorem dX7_walks_13 : decode cX7_walks 13 = .ok (.iaload, 1) := by decide +kernel
theorem dX7_walks_14 : decode cX7_walks 14 = .ok (.iload_n 2, 1) := by decide +kernel
theorem dX7_walks_15 : decode cX7_walks 15 = .ok (.invokevirtual 171, 3) := by decide +kernel
theorem dX7_walks_18 : decode cX7_walks 18 = .ok (.istore 4, 2) := by decide +kernel
theorem dX7_walks_20 : decode cX7_walks 20 = .ok (.iload 4, 2) := by decide +kernel
theorem dX7_walks_22 : decode cX7_walks 22 = .ok (.ifCond .lt 48, 3) := by decide +kernel
theorem dX7_walks_25 : decode cX7_walks 25 = .ok (.aload_n 0, 1) := by decide +kernel
theorem dX7_walks_26 : decode cX7_walks 26 = .ok (.bipush 11, 2) := by decide +kernel
theorem dX7_walks_28 : decode cX7_walks 28 = .ok (.iload_n 1, 1) := by decide +kernel
theorem dX7_walks_29 : decode cX7_walks 29 = .ok (.iload 4, 2) := by decide +kernel
theorem dX7_walks_31 : decode cX7_walks 31 = .ok (.iload_n 3, 1) := by decide +kernel
theorem dX7_walks_32 : decode cX7_walks 32 = .ok (.invokevirtual 149, 3) := by decide +kernel
theorem dX7_walks_35 : decode cX7_walks 35 = .ok (.istore 5, 2) := by decide +kernel
theorem dX7_walks_37 : decode cX7_walks 37 = .ok (.iload 5, 2) := by decide +kernel
theorem dX7_walks_39 : decode cX7_walks 39 = .ok (.ifCond .le 24, 3) := by decide +kernel
theorem dX7_walks_42 : decode cX7_walks 42 = .ok (.aload_n 0, 1) := by decide +kernel
theorem dX7_walks_43 : decode cX7_walks 43 = .ok (.bipush 11, 2) := by decide +kernel
theorem dX7_walks_45 : decode cX7_walks 45 = .ok (.iload_n 1, 1) := by decide +kernel
theorem dX7_walks_46 : decode cX7_walks 46 = .ok (.aload_n 0, 1) := by decide +kernel
theorem dX7_walks_47 : decode cX7_walks 47 = .ok (.getfield 35, 3) := by decide +kernel
theorem dX7_walks_50 : decode cX7_walks 50 = .ok (.sipush 546, 3) := by decide +kernel
theorem dX7_walks_53 : decode cX7_walks 53 = .ok (.iload_n 1, 1) := by decide +kernel
theorem dX7_walks_54 : decode cX7_walks 54 = .ok (.iadd, 1) := by decide +kernel
theorem dX7_walks_55 : decode cX7_walks 55 = .ok (.iaload, 1) := by decide +kernel
theorem dX7_walks_56 : decode cX7_walks 56 = .ok (.iload_n 2, 1) := by decide +kernel
theorem dX7_walks_57 : decode cX7_walks 57 = .ok (.invokevirtual 171, 3) := by decide +kernel
theorem dX7_walks_60 : decode cX7_walks 60 = .ok (.goto 5, 3) := by decide +kernel
theorem dX7_walks_63 : decode cX7_walks 63 = .ok (.bipush (-4), 2) := by decide +kernel
theorem dX7_walks_65 : decode cX7_walks 65 = .ok (.istore 4, 2) := by decide +kernel
theorem dX7_walks_67 : decode cX7_walks 67 = .ok (.goto (-47), 3) := by decide +kernel
theorem dX7_walks_70 : decode cX7_walks 70 = .ok (.return_, 1) := by decide +kernel
set_option maxRecDepth 20000 in
theorem ggX7_week_X7_in : GoodIn wsX7_week wsX7_in := goodIn_r _ [13] (by decide +kernel) (by decide +kernel)
set_option maxRecDepth 20000 in
theorem gX7_week_X7_in : GoodIn wsX7_week (va_wsS RX7 61 yX7_in wsX7_in) := goodIn_app (goodIn_of _ (by decide +kernel)) ggX7_week_X7_in
set_option maxRecDepth 20000 in
theorem ggX7_week_X7_copies : GoodIn wsX7_week wsX7_copies := goodIn_r _ [17, 7, 64, 65, 66, 67, 68, 69, 70, 71, 72, 73, 74, 75, 76, 77, 78, 79, 80, 81, 82] (by decide +kernel) (by decide +kernel)
set_option maxRecDepth 20000 in
theorem gX7_week_X7_copies : GoodIn wsX7_week (wsV RX7 126 RX7 yX7_copies wsX7_copies) := goodIn_app (goodIn_of _ (by decide +kernel)) ggX7_week_X7_copies
set_option maxRecDepth 20000 in
theorem ggX7_week_X7_walks : GoodIn wsX7_week wsX7_walks := goodIn_r _ [21, 7, 22, 23, 24, 12, 25, 9, 26, 27, 28, 29, 30, 31, 32, 33, 34, 35, 36, 37, 38, 39, 40, 41, 42, 43, 44, 45, 46, 47, 48, 49, 50, 51, 52, 53, 54, 55, 56, 8, 57, 64, 65, 66, 67, 68, 69, 70, 71, 72, 73, 74, 75, 76, 77, 78, 79, 80, 81, 82] (by decide +kernel) (by decide +kernel)
set_option maxRecDepth 20000 in
theorem gX7_week_X7_walks : GoodIn wsX7_week (wsV RX7 208 RX7 yX7_walks wsX7_walks) := goodIn_app (goodIn_of _ (by decide +kernel)) ggX7_week_X7_walks
set_option maxRecDepth 20000 in
theorem ggX7_week_X7_nights : GoodIn wsX7_week wsX7_nights := goodIn_r _ [61, 62, 7, 9, 36, 6, 57, 63, 64, 65, 66, 67, 68, 69, 70, 71, 72, 73, 74, 75, 76, 77, 78, 79, 80, 81, 82] (by decide +kernel) (by decide +kernel)
set_option maxRecDepth 20000 in
theorem gX7_week_X7_nights : GoodIn wsX7_week (wsV RX7 155 RX7 yX7_nights wsX7_nights) := goodIn_app (goodIn_of _ (by decide +kernel)) ggX7_week_X7_nights
theorem dX7_week_0 : decode cX7_week 0 = .ok (.iload_n 1, 1) := by decide +kernel
theorem dX7_week_1 : decode cX7_week 1 = .ok (.i2l, 1) := by decide +kernel
theorem dX7_week_2 : decode cX7_week 2 = .ok (.lconst 0, 1) := by decide +kernel
theorem dX7_week_3 : decode cX7_week 3 = .ok (.ldc2_w 200, 3) := by decide +kernel
theorem dX7_week_6 : decode cX7_week 6 = .ok (.invokestatic 61, 3) := by decide +kernel
theorem dX7_week_9 : decode cX7_week 9 = .ok (.ifCond .eq 25, 3) := by decide +kernel
theorem dX7_week_12 : decode cX7_week 12 = .ok (.iload_n 2, 1) := by decide +kernel
theorem dX7_week_13 : decode cX7_week 13 = .ok (.i2l, 1) := by decide +kernel
theorem dX7_week_14 : decode cX7_week 14 = .ok (.lconst 1, 1) := by decide +kernel
theorem dX7_week_15 : decode cX7_week 15 = .ok (.ldc2_w 153, 3) := by decide +kernel
theorem dX7_week_18 : decode cX7_week 18 = .ok (.invokestatic 61, 3) := by decide +kernel
theorem dX7_week_21 : decode cX7_week 21 = .ok (.ifCond .eq 13, 3) := by decide +kernel
theorem dX7_week_24 : decode cX7_week 24 = .ok (.iload_n 3, 1) := by decide +kernel
theorem dX7_week_25 : decode cX7_week 25 = .ok (.i2l, 1) := by decide +kernel
theorem dX7_week_26 : decode cX7_week 26 = .ok (.lconst 0, 1) := by decide +kernel
theorem dX7_week_27 : decode cX7_week 27 = .ok (.lconst 1, 1) := by decide +kernel
theorem dX7_week_28 : decode cX7_week 28 = .ok (.invokestatic 61, 3) := by decide +kernel
theorem dX7_week_31 : decode cX7_week 31 = .ok (.ifCond .ne 5, 3) := by decide +kernel
theorem dX7_week_34 : decode cX7_week 34 = .ok (.iconst (-1), 1) := by decide +kernel
theorem dX7_week_35 : decode cX7_week 35 = .ok (.ireturn, 1) := by decide +kernel
theorem dX7_week_36 : decode cX7_week 36 = .ok (.aload_n 0, 1) := by decide +kernel
theorem dX7_week_37 : decode cX7_week 37 = .ok (.iconst 0, 1) := by decide +kernel
theorem dX7_week_38 : decode cX7_week 38 = .ok (.bipush 11, 2) := by decide +kernel
theorem dX7_week_40 : decode cX7_week 40 = .ok (.invokevirtual 126, 3) := by decide +kernel
theorem dX7_week_43 : decode cX7_week 43 = .ok (.iconst 0, 1) := by decide +kernel
theorem dX7_week_44 : decode cX7_week 44 = .ok (.istore 4, 2) := by decide +kernel
theorem dX7_week_46 : decode cX7_week 46 = .ok (.iload 4, 2) := by decide +kernel
theorem dX7_week_48 : decode cX7_week 48 = .ok (.iload_n 2, 1) := by decide +kernel
theorem dX7_week_49 : decode cX7_week 49 = .ok (.if_icmp .ge 126, 3) := by decide +kernel
theorem dX7_week_52 : decode cX7_week 52 = .ok (.ldc2_w 202, 3) := by decide +kernel
theorem dX7_week_55 : decode cX7_week 55 = .ok (.iload_n 1, 1) := by decide +kernel
theorem dX7_week_56 : decode cX7_week 56 = .ok (.i2l, 1) := by decide +kernel
theorem dX7_week_57 : decode cX7_week 57 = .ok (.lmul, 1) := by decide +kernel
theorem dX7_week_58 : decode cX7_week 58 = .ok (.ldc2_w 204, 3) := by decide +kernel
theorem dX7_week_61 : decode cX7_week 61 = .ok (.iload 4, 2) := by decide +kernel
theorem dX7_week_63 : decode cX7_week 63 = .ok (.i2l, 1) := by decide +kernel
theorem dX7_week_64 : decode cX7_week 64 = .ok (.lmul, 1) := by decide +kernel
theorem dX7_week_65 : decode cX7_week 65 = .ok (.ladd, 1) := by decide +kernel
theorem dX7_week_66 : decode cX7_week 66 = .ok (.lconst 1, 1) := by decide +kernel
theorem dX7_week_67 : decode cX7_week 67 = .ok (.ladd, 1) := by decide +kernel
theorem dX7_week_68 : decode cX7_week 68 = .ok (.lstore 5, 2) := by decide +kernel
theorem dX7_week_70 : decode cX7_week 70 = .ok (.lload 5, 2) := by decide +kernel
theorem dX7_week_72 : decode cX7_week 72 = .ok (.lload 5, 2) := by decide +kernel
theorem dX7_week_74 : decode cX7_week 74 = .ok (.lmul, 1) := by decide +kernel
theorem dX7_week_75 : decode cX7_week 75 = .ok (.ldc2_w 206, 3) := by decide +kernel
theorem dX7_week_78 : decode cX7_week 78 = .ok (.lrem, 1) := by decide +kernel
theorem dX7_week_79 : decode cX7_week 79 = .ok (.l2i, 1) := by decide +kernel
theorem dX7_week_80 : decode cX7_week 80 = .ok (.istore 7, 2) := by decide +kernel
theorem dX7_week_82 : decode cX7_week 82 = .ok (.iload 7, 2) := by decide +kernel
theorem dX7_week_84 : decode cX7_week 84 = .ok (.aload_n 0, 1) := by decide +kernel
theorem dX7_week_85 : decode cX7_week 85 = .ok (.getfield 26, 3) := by decide +kernel
theorem dX7_week_88 : decode cX7_week 88 = .ok (.iconst 0, 1) := by decide +kernel
theorem dX7_week_89 : decode cX7_week 89 = .ok (.iaload, 1) := by decide +kernel
theorem dX7_week_90 : decode cX7_week 90 = .ok (.irem, 1) := by decide +kernel
theorem dX7_week_91 : decode cX7_week 91 = .ok (.istore 8, 2) := by decide +kernel
theorem dX7_week_93 : decode cX7_week 93 = .ok (.aload_n 0, 1) := by decide +kernel
theorem dX7_week_94 : decode cX7_week 94 = .ok (.getfield 35, 3) := by decide +kernel
theorem dX7_week_97 : decode cX7_week 97 = .ok (.sipush 546, 3) := by decide +kernel
theorem dX7_week_100 : decode cX7_week 100 = .ok (.iload 8, 2) := by decide +kernel
theorem dX7_week_102 : decode cX7_week 102 = .ok (.iadd, 1) := by decide +kernel
theorem dX7_week_103 : decode cX7_week 103 = .ok (.iaload, 1) := by decide +kernel
theorem dX7_week_104 : decode cX7_week 104 = .ok (.istore 9, 2) := by decide +kernel
theorem dX7_week_106 : decode cX7_week 106 = .ok (.aload_n 0, 1) := by decide +kernel
theorem dX7_week_107 : decode cX7_week 107 = .ok (.iload 8, 2) := by decide +kernel
theorem dX7_week_109 : decode cX7_week 109 = .ok (.aload_n 0, 1) := by decide +kernel
theorem dX7_week_110 : decode cX7_week 110 = .ok (.getfield 29, 3) := by decide +kernel
theorem dX7_week_113 : decode cX7_week 113 = .ok (.iconst 3, 1) := by decide +kernel
theorem dX7_week_114 : decode cX7_week 114 = .ok (.iload 8, 2) := by decide +kernel
theorem dX7_week_116 : decode cX7_week 116 = .ok (.imul, 1) := by decide +kernel
theorem dX7_week_117 : decode cX7_week 117 = .ok (.iconst 2, 1) := by decide +kernel
theorem dX7_week_118 : decode cX7_week 118 = .ok (.iadd, 1) := by decide +kernel
theorem dX7_week_119 : decode cX7_week 119 = .ok (.iaload, 1) := by decide +kernel
theorem dX7_week_120 : decode cX7_week 120 = .ok (.iload 7, 2) := by decide +kernel
theorem dX7_week_122 : decode cX7_week 122 = .ok (.bipush 8, 2) := by decide +kernel
theorem dX7_week_124 : decode cX7_week 124 = .ok (.idiv, 1) := by decide +kernel
theorem dX7_week_125 : decode cX7_week 125 = .ok (.iconst 2, 1) := by decide +kernel
theorem dX7_week_126 : decode cX7_week 126 = .ok (.irem, 1) := by decide +kernel
theorem dX7_week_127 : decode cX7_week 127 = .ok (.iconst 1, 1) := by decide +kernel
theorem dX7_week_128 : decode cX7_week 128 = .ok (.if_icmp .ne 7, 3) := by decide +kernel
theorem dX7_week_131 : decode cX7_week 131 = .ok (.iconst 1, 1) := by decide +kernel
theorem dX7_week_132 : decode cX7_week 132 = .ok (.goto 4, 3) := by decide +kernel
theorem dX7_week_135 : decode cX7_week 135 = .ok (.iconst 0, 1) := by decide +kernel
theorem dX7_week_136 : decode cX7_week 136 = .ok (.invokevirtual 208, 3) := by decide +kernel
theorem dX7_week_139 : decode cX7_week 139 = .ok (.aload_n 0, 1) := by decide +kernel
theorem dX7_week_140 : decode cX7_week 140 = .ok (.iload 8, 2) := by decide +kernel
theorem dX7_week_142 : decode cX7_week 142 = .ok (.iload 9, 2) := by decide +kernel
theorem dX7_week_144 : decode cX7_week 144 = .ok (.iload 7, 2) := by decide +kernel
theorem dX7_week_146 : decode cX7_week 146 = .ok (.bipush 8, 2) := by decide +kernel
theorem dX7_week_148 : decode cX7_week 148 = .ok (.idiv, 1) := by decide +kernel
theorem dX7_week_149 : decode cX7_week 149 = .ok (.iconst 2, 1) := by decide +kernel
theorem dX7_week_150 : decode cX7_week 150 = .ok (.irem, 1) := by decide +kernel
theorem dX7_week_151 : decode cX7_week 151 = .ok (.iconst 1, 1) := by decide +kernel
theorem dX7_week_152 : decode cX7_week 152 = .ok (.if_icmp .ne 7, 3) := by decide +kernel
theorem dX7_week_155 : decode cX7_week 155 = .ok (.iconst 1, 1) := by decide +kernel
theorem dX7_week_156 : decode cX7_week 156 = .ok (.goto 4, 3) := by decide +kernel
theorem dX7_week_159 : decode cX7_week 159 = .ok (.iconst 0, 1) := by decide +kernel
theorem dX7_week_160 : decode cX7_week 160 = .ok (.invokevirtual 208, 3) := by decide +kernel
theorem dX7_week_163 : decode cX7_week 163 = .ok (.aload_n 0, 1) := by decide +kernel
theorem dX7_week_164 : decode cX7_week 164 = .ok (.bipush 11, 2) := by decide +kernel
theorem dX7_week_166 : decode cX7_week 166 = .ok (.invokevirtual 155, 3) := by decide +kernel
theorem dX7_week_169 : decode cX7_week 169 = .ok (.iinc 4 1, 3) := by decide +kernel
theorem dX7_week_172 : decode cX7_week 172 = .ok (.goto (-126), 3) := by decide +kernel
theorem dX7_week_175 : decode cX7_week 175 = .ok (.iload_n 3, 1) := by decide +kernel
theorem dX7_week_176 : decode cX7_week 176 = .ok (.ifCond .ne 20, 3) := by decide +kernel
theorem dX7_week_179 : decode cX7_week 179 = .ok (.aload_n 0, 1) := by decide +kernel
theorem dX7_week_180 : decode cX7_week 180 = .ok (.getfield 35, 3) := by decide +kernel
theorem dX7_week_183 : decode cX7_week 183 = .ok (.sipush 550, 3) := by decide +kernel
theorem dX7_week_186 : decode cX7_week 186 = .ok (.iaload, 1) := by decide +kernel
theorem dX7_week_187 : decode cX7_week 187 = .ok (.aload_n 0, 1) := by decide +kernel
theorem dX7_week_188 : decode cX7_week 188 = .ok (.getfield 35, 3) := by decide +kernel
theorem dX7_week_191 : decode cX7_week 191 = .ok (.bipush 44, 2) := by decide +kernel
theorem dX7_week_193 : decode cX7_week 193 = .ok (.iaload, 1) := by decide +kernel
theorem dX7_week_194 : decode cX7_week 194 = .ok (.isub, 1) := by decide +kernel
theorem dX7_week_195 : decode cX7_week 195 = .ok (.ireturn, 1) := by decide +kernel
theorem dX7_week_196 : decode cX7_week 196 = .ok (.iconst 0, 1) := by decide +kernel
theorem dX7_week_197 : decode cX7_week 197 = .ok (.istore 4, 2) := by decide +kernel
theorem dX7_week_199 : decode cX7_week 199 = .ok (.iconst 0, 1) := by decide +kernel
theorem dX7_week_200 : decode cX7_week 200 = .ok (.istore 5, 2) := by decide +kernel
theorem dX7_week_202 : decode cX7_week 202 = .ok (.iload 5, 2) := by decide +kernel
theorem dX7_week_204 : decode cX7_week 204 = .ok (.bipush 32, 2) := by decide +kernel
theorem dX7_week_206 : decode cX7_week 206 = .ok (.if_icmp .ge 55, 3) := by decide +kernel
theorem dX7_week_209 : decode cX7_week 209 = .ok (.iload 4, 2) := by decide +kernel
theorem dX7_week_211 : decode cX7_week 211 = .ok (.iload 5, 2) := by decide +kernel
theorem dX7_week_213 : decode cX7_week 213 = .ok (.iconst 4, 1) := by decide +kernel
theorem dX7_week_214 : decode cX7_week 214 = .ok (.idiv, 1) := by decide +kernel
theorem dX7_week_215 : decode cX7_week 215 = .ok (.aload_n 0, 1) := by decide +kernel
theorem dX7_week_216 : decode cX7_week 216 = .ok (.getfield 17, 3) := by decide +kernel
theorem dX7_week_219 : decode cX7_week 219 = .ok (.iconst 0, 1) := by decide +kernel
theorem dX7_week_220 : decode cX7_week 220 = .ok (.iaload, 1) := by decide +kernel
theorem dX7_week_221 : decode cX7_week 221 = .ok (.if_icmp .ge 30, 3) := by decide +kernel
theorem dX7_week_224 : decode cX7_week 224 = .ok (.iload 5, 2) := by decide +kernel
theorem dX7_week_226 : decode cX7_week 226 = .ok (.iconst 4, 1) := by decide +kernel
theorem dX7_week_227 : decode cX7_week 227 = .ok (.irem, 1) := by decide +kernel
theorem dX7_week_228 : decode cX7_week 228 = .ok (.aload_n 0, 1) := by decide +kernel
theorem dX7_week_229 : decode cX7_week 229 = .ok (.getfield 26, 3) := by decide +kernel
theorem dX7_week_232 : decode cX7_week 232 = .ok (.iconst 0, 1) := by decide +kernel
theorem dX7_week_233 : decode cX7_week 233 = .ok (.iaload, 1) := by decide +kernel
theorem dX7_week_234 : decode cX7_week 234 = .ok (.if_icmp .ge 17, 3) := by decide +kernel
theorem dX7_week_237 : decode cX7_week 237 = .ok (.aload_n 0, 1) := by decide +kernel
theorem dX7_week_238 : decode cX7_week 238 = .ok (.getfield 35, 3) := by decide +kernel
theorem dX7_week_241 : decode cX7_week 241 = .ok (.sipush 506, 3) := by decide +kernel
theorem dX7_week_244 : decode cX7_week 244 = .ok (.iload 5, 2) := by decide +kernel
theorem dX7_week_246 : decode cX7_week 246 = .ok (.iadd, 1) := by decide +kernel
theorem dX7_week_247 : decode cX7_week 247 = .ok (.iaload, 1) := by decide +kernel
theorem dX7_week_248 : decode cX7_week 248 = .ok (.goto 4, 3) := by decide +kernel
theorem dX7_week_251 : decode cX7_week 251 = .ok (.iconst 0, 1) := by decide +kernel
theorem dX7_week_252 : decode cX7_week 252 = .ok (.iadd, 1) := by decide +kernel
theorem dX7_week_253 : decode cX7_week 253 = .ok (.istore 4, 2) := by decide +kernel
theorem dX7_week_255 : decode cX7_week 255 = .ok (.iinc 5 1, 3) := by decide +kernel
theorem dX7_week_258 : decode cX7_week 258 = .ok (.goto (-56), 3) := by decide +kernel
theorem dX7_week_261 : decode cX7_week 261 = .ok (.iload 4, 2) := by decide +kernel
theorem dX7_week_263 : decode cX7_week 263 = .ok (.ireturn, 1) := by decide +kernel
set_option maxRecDepth 20000 in
theorem ggX7_keep_X7_copies : GoodIn wsX7_keep wsX7_copies := goodIn_r _ [6, 7, 8, 9, 10, 11, 12, 13, 14, 15, 16, 17, 18, 19, 20, 21, 22, 23, 24, 25, 26] (by decide +kernel) (by decide +kernel)
set_option maxRecDepth 20000 in
theorem gX7_keep_X7_copies : GoodIn wsX7_keep (wsV RX7 126 RX7 yX7_copies wsX7_copies) := goodIn_app (goodIn_of _ (by decide +kernel)) ggX7_keep_X7_copies
theorem dX7_keep_0 : decode cX7_keep 0 = .ok (.aload_n 0, 1) := by decide +kernel
theorem dX7_keep_1 : decode cX7_keep 1 = .ok (.getfield 106, 3) := by decide +kernel
theorem dX7_keep_4 : decode cX7_keep 4 = .ok (.iconst 2, 1) := by decide +kernel
theorem dX7_keep_5 : decode cX7_keep 5 = .ok (.if_icmp .ne 6, 3) := by decide +kernel
theorem dX7_keep_8 : decode cX7_keep 8 = .ok (.bipush (-3), 2) := by decide +kernel
theorem dX7_keep_10 : decode cX7_keep 10 = .ok (.ireturn, 1) := by decide +kernel
theorem dX7_keep_11 : decode cX7_keep 11 = .ok (.aload_n 0, 1) := by decide +kernel
theorem dX7_keep_12 : decode cX7_keep 12 = .ok (.dup, 1) := by decide +kernel
theorem dX7_keep_13 : decode cX7_keep 13 = .ok (.getfield 106, 3) := by decide +kernel
theorem dX7_keep_16 : decode cX7_keep 16 = .ok (.iconst 1, 1) := by decide +kernel
theorem dX7_keep_17 : decode cX7_keep 17 = .ok (.iadd, 1) := by decide +kernel
theorem dX7_keep_18 : decode cX7_keep 18 = .ok (.putfield 106, 3) := by decide +kernel
theorem dX7_keep_21 : decode cX7_keep 21 = .ok (.aload_n 0, 1) := by decide +kernel
theorem dX7_keep_22 : decode cX7_keep 22 = .ok (.iconst 0, 1) := by decide +kernel
theorem dX7_keep_23 : decode cX7_keep 23 = .ok (.aload_n 0, 1) := by decide +kernel
theorem dX7_keep_24 : decode cX7_keep 24 = .ok (.getfield 106, 3) := by decide +kernel
theorem dX7_keep_27 : decode cX7_keep 27 = .ok (.invokevirtual 126, 3) := by decide +kernel
theorem dX7_keep_30 : decode cX7_keep 30 = .ok (.aload_n 0, 1) := by decide +kernel
theorem dX7_keep_31 : decode cX7_keep 31 = .ok (.getfield 106, 3) := by decide +kernel
theorem dX7_keep_34 : decode cX7_keep 34 = .ok (.ireturn, 1) := by decide +kernel
set_option maxRecDepth 20000 in
theorem ggX7_back_X7_copies : GoodIn wsX7_back wsX7_copies := goodIn_r _ [7, 8, 9, 10, 11, 12, 13, 14, 15, 16, 17, 18, 19, 20, 21, 22, 23, 24, 25, 26, 27] (by decide +kernel) (by decide +kernel)
set_option maxRecDepth 20000 in
theorem gX7_back_X7_copies : GoodIn wsX7_back (wsV RX7 126 RX7 yX7_copies wsX7_copies) := goodIn_app (goodIn_of _ (by decide +kernel)) ggX7_back_X7_copies
theorem dX7_back_0 : decode cX7_back 0 = .ok (.aload_n 0, 1) := by decide +kernel
theorem dX7_back_1 : decode cX7_back 1 = .ok (.getfield 106, 3) := by decide +kernel
theorem dX7_back_4 : decode cX7_back 4 = .ok (.ifCond .ne 6, 3) := by decide +kernel
theorem dX7_back_7 : decode cX7_back 7 = .ok (.bipush (-2), 2) := by decide +kernel
theorem dX7_back_9 : decode cX7_back 9 = .ok (.ireturn, 1) := by decide +kernel
theorem dX7_back_10 : decode cX7_back 10 = .ok (.aload_n 0, 1) := by decide +kernel
theorem dX7_back_11 : decode cX7_back 11 = .ok (.aload_n 0, 1) := by decide +kernel
theorem dX7_back_12 : decode cX7_back 12 = .ok (.getfield 106, 3) := by decide +kernel
theorem dX7_back_15 : decode cX7_back 15 = .ok (.iconst 0, 1) := by decide +kernel
theorem dX7_back_16 : decode cX7_back 16 = .ok (.invokevirtual 126, 3) := by decide +kernel
theorem dX7_back_19 : decode cX7_back 19 = .ok (.aload_n 0, 1) := by decide +kernel
theorem dX7_back_20 : decode cX7_back 20 = .ok (.dup, 1) := by decide +kernel
theorem dX7_back_21 : decode cX7_back 21 = .ok (.getfield 106, 3) := by decide +kernel
theorem dX7_back_24 : decode cX7_back 24 = .ok (.iconst 1, 1) := by decide +kernel
theorem dX7_back_25 : decode cX7_back 25 = .ok (.isub, 1) := by decide +kernel
theorem dX7_back_26 : decode cX7_back 26 = .ok (.putfield 106, 3) := by decide +kernel
theorem dX7_back_29 : decode cX7_back 29 = .ok (.aload_n 0, 1) := by decide +kernel
theorem dX7_back_30 : decode cX7_back 30 = .ok (.iconst 0, 1) := by decide +kernel
theorem dX7_back_31 : decode cX7_back 31 = .ok (.putfield 103, 3) := by decide +kernel
theorem dX7_back_34 : decode cX7_back 34 = .ok (.aload_n 0, 1) := by decide +kernel
theorem dX7_back_35 : decode cX7_back 35 = .ok (.getfield 106, 3) := by decide +kernel
theorem dX7_back_38 : decode cX7_back 38 = .ok (.ireturn, 1) := by decide +kernel
theorem dX7_count_0 : decode cX7_count 0 = .ok (.iload_n 1, 1) := by decide +kernel
theorem dX7_count_1 : decode cX7_count 1 = .ok (.tableswitch 99 0 7 #[47, 54, 61, 68, 76, 84, 89, 94], 47) := by decide +kernel
theorem dX7_count_48 : decode cX7_count 48 = .ok (.aload_n 0, 1) := by decide +kernel
theorem dX7_count_49 : decode cX7_count 49 = .ok (.getfield 13, 3) := by decide +kernel
theorem dX7_count_52 : decode cX7_count 52 = .ok (.iconst 0, 1) := by decide +kernel
theorem dX7_count_53 : decode cX7_count 53 = .ok (.iaload, 1) := by decide +kernel
theorem dX7_count_54 : decode cX7_count 54 = .ok (.ireturn, 1) := by decide +kernel
theorem dX7_count_55 : decode cX7_count 55 = .ok (.aload_n 0, 1) := by decide +kernel
theorem dX7_count_56 : decode cX7_count 56 = .ok (.getfield 17, 3) := by decide +kernel
theorem dX7_count_59 : decode cX7_count 59 = .ok (.iconst 0, 1) := by decide +kernel
theorem dX7_count_60 : decode cX7_count 60 = .ok (.iaload, 1) := by decide +kernel
theorem dX7_count_61 : decode cX7_count 61 = .ok (.ireturn, 1) := by decide +kernel
theorem dX7_count_62 : decode cX7_count 62 = .ok (.aload_n 0, 1) := by decide +kernel
theorem dX7_count_63 : decode cX7_count 63 = .ok (.getfield 26, 3) := by decide +kernel
theorem dX7_count_66 : decode cX7_count 66 = .ok (.iconst 0, 1) := by decide +kernel
theorem dX7_count_67 : decode cX7_count 67 = .ok (.iaload, 1) := by decide +kernel
theorem dX7_count_68 : decode cX7_count 68 = .ok (.ireturn, 1) := by decide +kernel
theorem dX7_count_69 : decode cX7_count 69 = .ok (.aload_n 0, 1) := by decide +kernel
theorem dX7_count_70 : decode cX7_count 70 = .ok (.getfield 35, 3) := by decide +kernel
theorem dX7_count_73 : decode cX7_count 73 = .ok (.bipush 44, 2) := by decide +kernel
theorem dX7_count_75 : decode cX7_count 75 = .ok (.iaload, 1) := by decide +kernel
theorem dX7_count_76 : decode cX7_count 76 = .ok (.ireturn, 1) := by decide +kernel
theorem dX7_count_77 : decode cX7_count 77 = .ok (.aload_n 0, 1) := by decide +kernel
theorem dX7_count_78 : decode cX7_count 78 = .ok (.getfield 35, 3) := by decide +kernel
theorem dX7_count_81 : decode cX7_count 81 = .ok (.bipush 45, 2) := by decide +kernel
theorem dX7_count_83 : decode cX7_count 83 = .ok (.iaload, 1) := by decide +kernel
theorem dX7_count_84 : decode cX7_count 84 = .ok (.ireturn, 1) := by decide +kernel
theorem dX7_count_85 : decode cX7_count 85 = .ok (.aload_n 0, 1) := by decide +kernel
theorem dX7_count_86 : decode cX7_count 86 = .ok (.getfield 103, 3) := by decide +kernel
theorem dX7_count_89 : decode cX7_count 89 = .ok (.ireturn, 1) := by decide +kernel
theorem dX7_count_90 : decode cX7_count 90 = .ok (.aload_n 0, 1) := by decide +kernel
theorem dX7_count_91 : decode cX7_count 91 = .ok (.getfield 106, 3) := by decide +kernel
theorem dX7_count_94 : decode cX7_count 94 = .ok (.ireturn, 1) := by decide +kernel
theorem dX7_count_95 : decode cX7_count 95 = .ok (.aload_n 0, 1) := by decide +kernel
theorem dX7_count_96 : decode cX7_count 96 = .ok (.getfield 65, 3) := by decide +kernel
theorem dX7_count_99 : decode cX7_count 99 = .ok (.ireturn, 1) := by decide +kernel
theorem dX7_count_100 : decode cX7_count 100 = .ok (.iconst (-1), 1) := by decide +kernel
theorem dX7_count_101 : decode cX7_count 101 = .ok (.ireturn, 1) := by decide +kernel
theorem dJ6_bitCount_0f7a4_0 : decode cJ6_bitCount_0f7a4 0 = .ok (.iload_n 0, 1) := by decide +kernel
theorem dJ6_bitCount_0f7a4_1 : decode cJ6_bitCount_0f7a4 1 = .ok (.iload_n 0, 1) := by decide +kernel
theorem dJ6_bitCount_0f7a4_2 : decode cJ6_bitCount_0f7a4 2 = .ok (.iconst 1, 1) := by decide +kernel
theorem dJ6_bitCount_0f7a4_3 : decode cJ6_bitCount_0f7a4 3 = .ok (.iushr, 1) := by decide +kernel
theorem dJ6_bitCount_0f7a4_4 : decode cJ6_bitCount_0f7a4 4 = .ok (.ldc_w 265, 3) := by decide +kernel
theorem dJ6_bitCount_0f7a4_7 : decode cJ6_bitCount_0f7a4 7 = .ok (.iand, 1) := by decide +kernel
theorem dJ6_bitCount_0f7a4_8 : decode cJ6_bitCount_0f7a4 8 = .ok (.isub, 1) := by decide +kernel
theorem dJ6_bitCount_0f7a4_9 : decode cJ6_bitCount_0f7a4 9 = .ok (.istore_n 0, 1) := by decide +kernel
theorem dJ6_bitCount_0f7a4_10 : decode cJ6_bitCount_0f7a4 10 = .ok (.iload_n 0, 1) := by decide +kernel
theorem dJ6_bitCount_0f7a4_11 : decode cJ6_bitCount_0f7a4 11 = .ok (.ldc_w 266, 3) := by decide +kernel
theorem dJ6_bitCount_0f7a4_14 : decode cJ6_bitCount_0f7a4 14 = .ok (.iand, 1) := by decide +kernel
theorem dJ6_bitCount_0f7a4_15 : decode cJ6_bitCount_0f7a4 15 = .ok (.iload_n 0, 1) := by decide +kernel
theorem dJ6_bitCount_0f7a4_16 : decode cJ6_bitCount_0f7a4 16 = .ok (.iconst 2, 1) := by decide +kernel
theorem dJ6_bitCount_0f7a4_17 : decode cJ6_bitCount_0f7a4 17 = .ok (.iushr, 1) := by decide +kernel
theorem dJ6_bitCount_0f7a4_18 : decode cJ6_bitCount_0f7a4 18 = .ok (.ldc_w 266, 3) := by decide +kernel
theorem dJ6_bitCount_0f7a4_21 : decode cJ6_bitCount_0f7a4 21 = .ok (.iand, 1) := by decide +kernel
theorem dJ6_bitCount_0f7a4_22 : decode cJ6_bitCount_0f7a4 22 = .ok (.iadd, 1) := by decide +kernel
theorem dJ6_bitCount_0f7a4_23 : decode cJ6_bitCount_0f7a4 23 = .ok (.istore_n 0, 1) := by decide +kernel
theorem dJ6_bitCount_0f7a4_24 : decode cJ6_bitCount_0f7a4 24 = .ok (.iload_n 0, 1) := by decide +kernel
theorem dJ6_bitCount_0f7a4_25 : decode cJ6_bitCount_0f7a4 25 = .ok (.iload_n 0, 1) := by decide +kernel
theorem dJ6_bitCount_0f7a4_26 : decode cJ6_bitCount_0f7a4 26 = .ok (.iconst 4, 1) := by decide +kernel
theorem dJ6_bitCount_0f7a4_27 : decode cJ6_bitCount_0f7a4 27 = .ok (.iushr, 1) := by decide +kernel
theorem dJ6_bitCount_0f7a4_28 : decode cJ6_bitCount_0f7a4 28 = .ok (.iadd, 1) := by decide +kernel
theorem dJ6_bitCount_0f7a4_29 : decode cJ6_bitCount_0f7a4 29 = .ok (.ldc_w 267, 3) := by decide +kernel
theorem dJ6_bitCount_0f7a4_32 : decode cJ6_bitCount_0f7a4 32 = .ok (.iand, 1) := by decide +kernel
theorem dJ6_bitCount_0f7a4_33 : decode cJ6_bitCount_0f7a4 33 = .ok (.istore_n 0, 1) := by decide +kernel
theorem dJ6_bitCount_0f7a4_34 : decode cJ6_bitCount_0f7a4 34 = .ok (.iload_n 0, 1) := by decide +kernel
theorem dJ6_bitCount_0f7a4_35 : decode cJ6_bitCount_0f7a4 35 = .ok (.iload_n 0, 1) := by decide +kernel
theorem dJ6_bitCount_0f7a4_36 : decode cJ6_bitCount_0f7a4 36 = .ok (.bipush 8, 2) := by decide +kernel
theorem dJ6_bitCount_0f7a4_38 : decode cJ6_bitCount_0f7a4 38 = .ok (.iushr, 1) := by decide +kernel
theorem dJ6_bitCount_0f7a4_39 : decode cJ6_bitCount_0f7a4 39 = .ok (.iadd, 1) := by decide +kernel
theorem dJ6_bitCount_0f7a4_40 : decode cJ6_bitCount_0f7a4 40 = .ok (.istore_n 0, 1) := by decide +kernel
theorem dJ6_bitCount_0f7a4_41 : decode cJ6_bitCount_0f7a4 41 = .ok (.iload_n 0, 1) := by decide +kernel
theorem dJ6_bitCount_0f7a4_42 : decode cJ6_bitCount_0f7a4 42 = .ok (.iload_n 0, 1) := by decide +kernel
theorem dJ6_bitCount_0f7a4_43 : decode cJ6_bitCount_0f7a4 43 = .ok (.bipush 16, 2) := by decide +kernel
theorem dJ6_bitCount_0f7a4_45 : decode cJ6_bitCount_0f7a4 45 = .ok (.iushr, 1) := by decide +kernel
theorem dJ6_bitCount_0f7a4_46 : decode cJ6_bitCount_0f7a4 46 = .ok (.iadd, 1) := by decide +kernel
theorem dJ6_bitCount_0f7a4_47 : decode cJ6_bitCount_0f7a4 47 = .ok (.istore_n 0, 1) := by decide +kernel
theorem dJ6_bitCount_0f7a4_48 : decode cJ6_bitCount_0f7a4 48 = .ok (.iload_n 0, 1) := by decide +kernel
theorem dJ6_bitCount_0f7a4_49 : decode cJ6_bitCount_0f7a4 49 = .ok (.bipush 63, 2) := by decide +kernel
theorem dJ6_bitCount_0f7a4_51 : decode cJ6_bitCount_0f7a4 51 = .ok (.iand, 1) := by decide +kernel
theorem dJ6_bitCount_0f7a4_52 : decode cJ6_bitCount_0f7a4 52 = .ok (.ireturn, 1) := by decide +kernel
theorem dJ9_max_7cf53_0 : decode cJ9_max_7cf53 0 = .ok (.iload_n 0, 1) := by decide +kernel
theorem dJ9_max_7cf53_1 : decode cJ9_max_7cf53 1 = .ok (.iload_n 1, 1) := by decide +kernel
theorem dJ9_max_7cf53_2 : decode cJ9_max_7cf53 2 = .ok (.if_icmp .lt 7, 3) := by decide +kernel
theorem dJ9_max_7cf53_5 : decode cJ9_max_7cf53 5 = .ok (.iload_n 0, 1) := by decide +kernel
theorem dJ9_max_7cf53_6 : decode cJ9_max_7cf53 6 = .ok (.goto 4, 3) := by decide +kernel
theorem dJ9_max_7cf53_9 : decode cJ9_max_7cf53 9 = .ok (.iload_n 1, 1) := by decide +kernel
theorem dJ9_max_7cf53_10 : decode cJ9_max_7cf53 10 = .ok (.ireturn, 1) := by decide +kernel
theorem dJ9_min_7cf53_0 : decode cJ9_min_7cf53 0 = .ok (.iload_n 0, 1) := by decide +kernel
theorem dJ9_min_7cf53_1 : decode cJ9_min_7cf53 1 = .ok (.iload_n 1, 1) := by decide +kernel
theorem dJ9_min_7cf53_2 : decode cJ9_min_7cf53 2 = .ok (.if_icmp .gt 7, 3) := by decide +kernel
theorem dJ9_min_7cf53_5 : decode cJ9_min_7cf53 5 = .ok (.iload_n 0, 1) := by decide +kernel
theorem dJ9_min_7cf53_6 : decode cJ9_min_7cf53 6 = .ok (.goto 4, 3) := by decide +kernel
theorem dJ9_min_7cf53_9 : decode cJ9_min_7cf53 9 = .ok (.iload_n 1, 1) := by decide +kernel
theorem dJ9_min_7cf53_10 : decode cJ9_min_7cf53 10 = .ok (.ireturn, 1) := by decide +kernel
end
section
set_option maxRecDepth 20000 in
theorem wsL_law_in : ∀ w ∈ wsL_law, w ∈ lw_tbl := fun w h => (goodIn_p wsL_law [69, 72, 77, 98, 127, 131, 147, 160, 176, 252, 255, 259, 263, 266, 269, 681, 686, 690, 301, 304, 308, 753, 757, 313, 761, 317, 321, 325, 330, 334, 338, 342, 345, 350, 354, 359, 364, 369, 374, 378, 382, 386, 390, 765, 769, 772, 776, 783, 788, 793, 394, 398, 402, 798, 803, 406, 410, 807, 811, 415, 419, 816, 820, 423, 427, 824, 432, 436, 440, 444, 448, 452, 456, 460, 464, 471, 474, 477, 480, 485, 828, 832, 836, 840, 844, 848, 852, 856, 489, 494, 860, 498, 502, 506, 512, 864, 869, 517, 521, 873, 525, 529, 533, 536, 544, 549, 877, 881, 885, 889, 553, 557, 894, 898, 563, 566, 573, 902, 906, 577, 581, 589, 594, 600, 910, 915, 604, 609, 919, 922, 926, 613, 930, 617, 622, 934, 626, 630, 939, 636, 640, 644, 944, 948, 648, 655, 659, 663, 952, 960, 668, 964, 672, 968, 676, 972] (by decide +kernel) (by decide +kernel) w h).1
theorem inlX0 : ∀ w ∈ wsX00, w ∈ wsL_law := fun _ h => List.mem_append_left _ (List.mem_append_left _ (List.mem_append_left _ (List.mem_append_left _ (List.mem_append_left _ (List.mem_append_right _ h)))))
theorem inX0 : ∀ w ∈ wsX00, w ∈ lw_tbl := fun w h => wsL_law_in w (inlX0 w h)
theorem inlX1 : ∀ w ∈ wsX10, w ∈ wsL_law := fun _ h => List.mem_append_left _ (List.mem_append_left _ (List.mem_append_left _ (List.mem_append_left _ (List.mem_append_right _ h))))
theorem inX1 : ∀ w ∈ wsX10, w ∈ lw_tbl := fun w h => wsL_law_in w (inlX1 w h)
theorem inlX2 : ∀ w ∈ wsX20, w ∈ wsL_law := fun _ h => List.mem_append_left _ (List.mem_append_right _ h)
theorem inX2 : ∀ w ∈ wsX20, w ∈ lw_tbl := fun w h => wsL_law_in w (inlX2 w h)
theorem inlX3 : ∀ w ∈ wsX30, w ∈ wsL_law := fun _ h => List.mem_append_left _ (List.mem_append_left _ (List.mem_append_right _ h))
theorem inX3 : ∀ w ∈ wsX30, w ∈ lw_tbl := fun w h => wsL_law_in w (inlX3 w h)
theorem inlX4 : ∀ w ∈ wsX40, w ∈ wsL_law := fun _ h => List.mem_append_left _ (List.mem_append_left _ (List.mem_append_left _ (List.mem_append_left _ (List.mem_append_left _ (List.mem_append_left _ (List.mem_append_right _ h))))))
theorem inX4 : ∀ w ∈ wsX40, w ∈ lw_tbl := fun w h => wsL_law_in w (inlX4 w h)
theorem inlX5 : ∀ w ∈ wsX50, w ∈ wsL_law := fun _ h => List.mem_append_left _ (List.mem_append_left _ (List.mem_append_left _ (List.mem_append_right _ h)))
theorem inX5 : ∀ w ∈ wsX50, w ∈ lw_tbl := fun w h => wsL_law_in w (inlX5 w h)
theorem inlX6 : ∀ w ∈ wsX60, w ∈ wsL_law := fun _ h => List.mem_append_left _ (List.mem_append_left _ (List.mem_append_left _ (List.mem_append_left _ (List.mem_append_left _ (List.mem_append_left _ (List.mem_append_left _ (List.mem_append_left _ (List.mem_append_right _ h))))))))
theorem inX6 : ∀ w ∈ wsX60, w ∈ lw_tbl := fun w h => wsL_law_in w (inlX6 w h)
theorem inlX7 : ∀ w ∈ wsX70, w ∈ wsL_law := fun _ h => List.mem_append_left _ (List.mem_append_left _ (List.mem_append_left _ (List.mem_append_left _ (List.mem_append_left _ (List.mem_append_left _ (List.mem_append_left _ (List.mem_append_right _ h)))))))
theorem inX7 : ∀ w ∈ wsX70, w ∈ lw_tbl := fun w h => wsL_law_in w (inlX7 w h)
theorem inJ6 : ∀ w ∈ wsJ60, w ∈ lw_tbl := by decide +kernel
theorem inJ9 : ∀ w ∈ wsJ90, w ∈ lw_tbl := by decide +kernel
set_option maxRecDepth 20000 in
theorem ggL_law_X6_init : GoodIn wsL_law wsX6_init := goodIn_r _ [9, 10, 11, 12, 13, 14, 15, 16, 17, 18, 19, 20, 21, 22, 23, 24, 25, 26, 27, 28, 29, 30, 31, 32, 33, 34, 35, 36, 37, 38, 39, 40, 41, 42, 43, 44, 45, 46, 47, 48, 49, 50, 51, 52, 53, 54, 55, 56, 57, 58, 59, 60, 61, 62, 63, 64, 65, 66, 67, 68, 69, 70, 71, 72, 73, 74, 75, 76, 77, 78, 79, 80, 81, 82, 83, 84, 85, 86, 87, 88, 89, 90, 91, 92, 93, 2, 94, 95, 96, 97, 98, 99, 100, 101, 102, 103, 104, 105, 106, 107, 108, 109, 758, 759, 760, 761, 730, 731, 732, 733, 734, 735, 736, 737, 738, 762, 763, 764, 765, 766, 767, 768, 769, 770, 771, 772, 773, 774, 775, 776, 777, 778, 779, 780, 781, 782, 783, 784, 785, 786, 787, 788, 789] (by decide +kernel) (by decide +kernel)
set_option maxRecDepth 20000 in
theorem gL_law_X6_init : GoodIn wsL_law (wsX6_init) := ggL_law_X6_init
set_option maxRecDepth 20000 in
theorem ggL_law_X7_init : GoodIn wsL_law wsX7_init := goodIn_r _ [112, 113, 11, 12, 114, 115, 43, 116, 117, 118, 119, 120, 121, 122, 123, 124, 125, 126, 127, 128, 129, 130, 131, 5, 132, 133, 134, 135, 136, 137, 138, 739, 740, 741, 742, 743, 744, 745, 746, 747, 748, 749, 750, 751, 752, 753, 754, 755, 756, 757] (by decide +kernel) (by decide +kernel)
set_option maxRecDepth 20000 in
theorem gL_law_X7_init : GoodIn wsL_law (wsX7_init) := ggL_law_X7_init
set_option maxRecDepth 20000 in
theorem ggL_law_X6_write : GoodIn wsL_law wsX6_write := goodIn_r _ [142, 16, 143, 144, 2, 145, 146, 147, 148, 15, 149, 150, 44, 93, 94, 730, 731, 732, 733, 734, 735, 736, 737, 738, 758, 759, 760, 761] (by decide +kernel) (by decide +kernel)
set_option maxRecDepth 20000 in
theorem gL_law_X6_write : GoodIn wsL_law (wsV RL 15 RX6 yX6_write wsX6_write) := goodIn_app (goodIn_of _ (by decide +kernel)) ggL_law_X6_write
set_option maxRecDepth 20000 in
theorem ggL_law_X7_write : GoodIn wsL_law wsX7_write := goodIn_r _ [154, 155, 156, 115, 157, 158, 5, 159, 739, 740, 741, 742, 743, 744, 745, 746, 747, 748, 749, 750, 751, 752, 753, 754, 755, 756, 757] (by decide +kernel) (by decide +kernel)
set_option maxRecDepth 20000 in
theorem gL_law_X7_write : GoodIn wsL_law (wsV RL 19 RX7 yX7_write wsX7_write) := goodIn_app (goodIn_of _ (by decide +kernel)) ggL_law_X7_write
set_option maxRecDepth 20000 in
theorem ggL_law_X6_wipe : GoodIn wsL_law wsX6_wipe := goodIn_r _ [163, 16, 730, 731, 732, 733, 734, 735, 736, 737, 738, 758, 759, 760, 761] (by decide +kernel) (by decide +kernel)
set_option maxRecDepth 20000 in
theorem gL_law_X6_wipe : GoodIn wsL_law (wsV RL 20 RX6 yX6_wipe wsX6_wipe) := goodIn_app (goodIn_of _ (by decide +kernel)) ggL_law_X6_wipe
set_option maxRecDepth 20000 in
theorem ggL_law_X7_wipe : GoodIn wsL_law wsX7_wipe := goodIn_r _ [167, 156, 739, 740, 741, 742, 743, 744, 745, 746, 747, 748, 749, 750, 751, 752, 753, 754, 755, 756, 757] (by decide +kernel) (by decide +kernel)
set_option maxRecDepth 20000 in
theorem gL_law_X7_wipe : GoodIn wsL_law (wsV RL 24 RX7 yX7_wipe wsX7_wipe) := goodIn_app (goodIn_of _ (by decide +kernel)) ggL_law_X7_wipe
set_option maxRecDepth 20000 in
theorem ggL_law_X6_fault : GoodIn wsL_law wsX6_fault := goodIn_r _ [171, 16, 39, 172, 173, 174, 15, 175, 150, 176, 45, 177, 178, 179, 37, 180, 78, 82, 83, 92, 99, 84, 85, 86, 87, 108, 2, 109, 181, 182, 183, 184, 185, 186, 187, 188, 189, 190, 191, 192, 193, 194, 195, 196, 44, 197, 198, 144, 145, 199, 200, 201, 202, 93, 94, 203, 204, 205, 206, 207, 208, 209, 210, 211, 212, 213, 214, 215, 89, 90, 91, 75, 76, 77, 216, 217, 218, 219, 220, 96, 97, 98, 79, 80, 81, 221, 222, 223, 224, 225, 226, 227, 228, 229, 230, 231, 232, 233, 234, 235, 236, 237, 238, 239, 240, 730, 731, 732, 733, 734, 735, 736, 737, 738, 758, 759, 760, 761, 775, 776, 777, 778, 779, 780, 781, 782, 783, 784, 785, 786, 787, 788, 789] (by decide +kernel) (by decide +kernel)
set_option maxRecDepth 20000 in
theorem gL_law_X6_fault : GoodIn wsL_law (wsV RL 25 RX6 yX6_fault wsX6_fault) := goodIn_app (goodIn_of _ (by decide +kernel)) ggL_law_X6_fault
set_option maxRecDepth 20000 in
theorem ggL_law_X7_fault : GoodIn wsL_law wsX7_fault := goodIn_r _ [244, 245, 156, 129, 130, 131, 5, 132, 116, 117, 120, 122, 119, 246, 247, 248, 249, 115, 128, 250, 251, 252, 253, 254, 255, 256, 257, 258, 259, 157, 158, 159, 260, 261, 262, 263, 264, 265, 266, 267, 268, 269, 270, 118, 271, 272, 273, 274, 121, 739, 740, 741, 742, 743, 744, 745, 746, 747, 748, 749, 750, 751, 752, 753, 754, 755, 756, 757] (by decide +kernel) (by decide +kernel)
set_option maxRecDepth 20000 in
theorem gL_law_X7_fault : GoodIn wsL_law (wsV RL 28 RX7 yX7_fault wsX7_fault) := goodIn_app (goodIn_of _ (by decide +kernel)) ggL_law_X7_fault
set_option maxRecDepth 20000 in
theorem ggL_law_X6_lay : GoodIn wsL_law wsX6_lay := goodIn_r _ [278, 16, 39, 38, 20, 25, 26, 172, 173, 174, 15, 175, 150, 176, 45, 177, 178, 179, 37, 180, 78, 82, 83, 92, 99, 84, 85, 86, 87, 108, 2, 109, 181, 182, 183, 184, 185, 186, 187, 188, 189, 190, 191, 192, 193, 194, 195, 196, 44, 197, 198, 144, 145, 199, 200, 201, 202, 93, 94, 203, 204, 205, 206, 207, 208, 209, 210, 211, 212, 213, 214, 215, 89, 90, 91, 75, 76, 77, 216, 217, 218, 219, 220, 96, 97, 98, 79, 80, 81, 221, 222, 223, 224, 225, 226, 227, 228, 229, 230, 231, 232, 233, 234, 235, 236, 237, 238, 239, 240, 279, 280, 281, 282, 100, 101, 102, 19, 103, 49, 52, 51, 104, 105, 106, 107, 283, 284, 285, 24, 286, 287, 730, 731, 732, 733, 734, 735, 736, 737, 738, 775, 776, 777, 778, 779, 780, 781, 782, 783, 784, 785, 786, 787, 788, 789, 758, 759, 760, 761, 762, 763, 764, 765, 766, 767, 768, 769] (by decide +kernel) (by decide +kernel)
set_option maxRecDepth 20000 in
theorem gL_law_X6_lay : GoodIn wsL_law (wsV RL 29 RX6 yX6_lay wsX6_lay) := goodIn_app (goodIn_of _ (by decide +kernel)) ggL_law_X6_lay
set_option maxRecDepth 20000 in
theorem ggL_law_X7_lay : GoodIn wsL_law wsX7_lay := goodIn_r _ [291, 117, 292, 242, 243, 5, 244, 245, 156, 129, 130, 131, 132, 116, 120, 122, 119, 246, 247, 248, 249, 115, 128, 250, 251, 252, 253, 254, 255, 256, 257, 258, 259, 157, 158, 159, 260, 261, 262, 263, 264, 265, 266, 267, 268, 269, 270, 118, 271, 272, 273, 274, 121, 293, 294, 295, 296, 133, 134, 135, 136, 123, 137, 138, 739, 740, 741, 742, 743, 744, 745, 746, 747, 748, 749, 750, 751, 752, 753, 754, 755, 756, 757] (by decide +kernel) (by decide +kernel)
set_option maxRecDepth 20000 in
theorem gL_law_X7_lay : GoodIn wsL_law (wsV RL 32 RX7 yX7_lay wsX7_lay) := goodIn_app (goodIn_of _ (by decide +kernel)) ggL_law_X7_lay
set_option maxRecDepth 20000 in
theorem ggL_law_X6_door : GoodIn wsL_law wsX6_door := goodIn_r _ [300, 38, 20, 301, 302, 303, 2, 304, 305, 197, 198, 730, 731, 732, 733, 734, 735, 736, 737, 738, 775, 776, 777, 778, 779, 780, 781, 782, 783, 784, 785, 786, 787, 788, 789, 762, 763, 764, 765, 766, 767] (by decide +kernel) (by decide +kernel)
set_option maxRecDepth 20000 in
theorem gL_law_X6_door : GoodIn wsL_law (wsV RL 33 RX6 yX6_door wsX6_door) := goodIn_app (goodIn_of _ (by decide +kernel)) ggL_law_X6_door
set_option maxRecDepth 20000 in
theorem ggL_law_X7_door : GoodIn wsL_law wsX7_door := goodIn_r _ [309, 310, 118, 123, 119, 311, 312, 313, 5, 314, 117, 157, 158, 159, 739, 740, 741, 742, 743, 744, 745, 746, 747, 748, 749, 750, 751, 752, 753, 754, 755, 756, 757] (by decide +kernel) (by decide +kernel)
set_option maxRecDepth 20000 in
theorem gL_law_X7_door : GoodIn wsL_law (wsV RL 37 RX7 yX7_door wsX7_door) := goodIn_app (goodIn_of _ (by decide +kernel)) ggL_law_X7_door
set_option maxRecDepth 20000 in
theorem ggL_law_X6_lodger : GoodIn wsL_law wsX6_lodger := goodIn_r _ [318, 20, 38, 319, 320, 321, 2, 322, 305, 197, 198, 730, 731, 732, 733, 734, 735, 736, 737, 738, 762, 763, 764, 765, 766, 767, 775, 776, 777, 778, 779, 780, 781, 782, 783, 784, 785, 786, 787, 788, 789] (by decide +kernel) (by decide +kernel)
set_option maxRecDepth 20000 in
theorem gL_law_X6_lodger : GoodIn wsL_law (wsV RL 38 RX6 yX6_lodger wsX6_lodger) := goodIn_app (goodIn_of _ (by decide +kernel)) ggL_law_X6_lodger
set_option maxRecDepth 20000 in
theorem ggL_law_X7_lodger : GoodIn wsL_law wsX7_lodger := goodIn_r _ [326, 259, 123, 121, 327, 328, 329, 5, 330, 120, 157, 158, 159, 739, 740, 741, 742, 743, 744, 745, 746, 747, 748, 749, 750, 751, 752, 753, 754, 755, 756, 757] (by decide +kernel) (by decide +kernel)
set_option maxRecDepth 20000 in
theorem gL_law_X7_lodger : GoodIn wsL_law (wsV RL 41 RX7 yX7_lodger wsX7_lodger) := goodIn_app (goodIn_of _ (by decide +kernel)) ggL_law_X7_lodger
set_option maxRecDepth 20000 in
theorem ggL_law_X6_grudge : GoodIn wsL_law wsX6_grudge := goodIn_r _ [334, 20, 301, 302, 303, 2, 304, 38, 319, 320, 321, 322, 335, 336, 337, 19, 338, 49, 197, 198, 730, 731, 732, 733, 734, 735, 736, 737, 738, 775, 776, 777, 778, 779, 780, 781, 782, 783, 784, 785, 786, 787, 788, 789, 762, 763, 764, 765, 766, 767] (by decide +kernel) (by decide +kernel)
set_option maxRecDepth 20000 in
theorem gL_law_X6_grudge : GoodIn wsL_law (wsV RL 42 RX6 yX6_grudge wsX6_grudge) := goodIn_app (goodIn_of _ (by decide +kernel)) ggL_law_X6_grudge
set_option maxRecDepth 20000 in
theorem ggL_law_X7_grudge : GoodIn wsL_law wsX7_grudge := goodIn_r _ [342, 123, 311, 312, 313, 5, 314, 117, 157, 158, 159, 327, 328, 329, 330, 120, 739, 740, 741, 742, 743, 744, 745, 746, 747, 748, 749, 750, 751, 752, 753, 754, 755, 756, 757] (by decide +kernel) (by decide +kernel)
set_option maxRecDepth 20000 in
theorem gL_law_X7_grudge : GoodIn wsL_law (wsV RL 45 RX7 yX7_grudge wsX7_grudge) := goodIn_app (goodIn_of _ (by decide +kernel)) ggL_law_X7_grudge
set_option maxRecDepth 20000 in
theorem ggL_law_X6_go : GoodIn wsL_law wsX6_go := goodIn_r _ [346, 38, 20, 25, 319, 320, 321, 2, 322, 301, 302, 303, 304, 305, 197, 198, 347, 348, 349, 37, 350, 75, 76, 351, 352, 353, 24, 354, 287, 62, 355, 356, 357, 358, 359, 360, 361, 362, 363, 364, 365, 19, 366, 49, 51, 52, 104, 105, 106, 107, 367, 368, 369, 370, 371, 372, 373, 374, 375, 376, 377, 378, 379, 336, 337, 338, 380, 93, 94, 381, 382, 383, 384, 80, 86, 385, 386, 387, 388, 59, 389, 390, 391, 392, 58, 60, 393, 394, 395, 396, 730, 731, 732, 733, 734, 735, 736, 737, 738, 762, 763, 764, 765, 766, 767, 775, 776, 777, 778, 779, 780, 781, 782, 783, 784, 785, 786, 787, 788, 789, 768, 769] (by decide +kernel) (by decide +kernel)
set_option maxRecDepth 20000 in
theorem gL_law_X6_go : GoodIn wsL_law (wsV RL 46 RX6 yX6_go wsX6_go) := goodIn_app (goodIn_of _ (by decide +kernel)) ggL_law_X6_go
set_option maxRecDepth 20000 in
theorem ggL_law_X7_go : GoodIn wsL_law wsX7_go := goodIn_r _ [400, 123, 327, 328, 329, 5, 330, 120, 157, 158, 159, 311, 312, 313, 314, 117, 401, 402, 403, 404, 118, 405, 406, 407, 408, 137, 409, 410, 411, 412, 413, 414, 415, 416, 417, 418, 419, 420, 421, 422, 423, 424, 121, 116, 425, 426, 427, 428, 739, 740, 741, 742, 743, 744, 745, 746, 747, 748, 749, 750, 751, 752, 753, 754, 755, 756, 757] (by decide +kernel) (by decide +kernel)
set_option maxRecDepth 20000 in
theorem gL_law_X7_go : GoodIn wsL_law (wsV RL 50 RX7 yX7_go wsX7_go) := goodIn_app (goodIn_of _ (by decide +kernel)) ggL_law_X7_go
set_option maxRecDepth 20000 in
theorem ggL_law_X6_oil : GoodIn wsL_law wsX6_oil := goodIn_r _ [432, 25, 20, 38, 301, 302, 303, 2, 304, 351, 352, 353, 24, 354, 287, 62, 355, 356, 357, 358, 359, 360, 361, 362, 363, 364, 365, 19, 366, 49, 51, 52, 104, 105, 106, 107, 433, 93, 94, 434, 435, 436, 437, 375, 376, 377, 378, 197, 198, 730, 731, 732, 733, 734, 735, 736, 737, 738, 762, 763, 764, 765, 766, 767, 775, 776, 777, 778, 779, 780, 781, 782, 783, 784, 785, 786, 787, 788, 789, 768, 769] (by decide +kernel) (by decide +kernel)
set_option maxRecDepth 20000 in
theorem gL_law_X6_oil : GoodIn wsL_law (wsV RL 51 RX6 yX6_oil wsX6_oil) := goodIn_app (goodIn_of _ (by decide +kernel)) ggL_law_X6_oil
set_option maxRecDepth 20000 in
theorem ggL_law_X7_oil : GoodIn wsL_law wsX7_oil := goodIn_r _ [441, 123, 116, 117, 311, 312, 313, 5, 314, 157, 158, 159, 405, 406, 407, 408, 137, 409, 410, 411, 412, 739, 740, 741, 742, 743, 744, 745, 746, 747, 748, 749, 750, 751, 752, 753, 754, 755, 756, 757] (by decide +kernel) (by decide +kernel)
set_option maxRecDepth 20000 in
theorem gL_law_X7_oil : GoodIn wsL_law (wsV RL 55 RX7 yX7_oil wsX7_oil) := goodIn_app (goodIn_of _ (by decide +kernel)) ggL_law_X7_oil
set_option maxRecDepth 20000 in
theorem ggL_law_X6_night : GoodIn wsL_law wsX6_night := goodIn_r _ [445, 20, 25, 38, 143, 144, 2, 145, 351, 352, 353, 24, 354, 287, 62, 355, 356, 357, 358, 359, 360, 361, 362, 363, 364, 365, 19, 366, 49, 51, 52, 104, 105, 106, 107, 446, 447, 448, 449, 450, 451, 452, 453, 50, 108, 109, 197, 198, 375, 376, 377, 378, 379, 336, 337, 338, 93, 94, 390, 391, 392, 58, 59, 60, 385, 386, 387, 388, 389, 393, 394, 395, 396, 454, 455, 456, 457, 458, 730, 731, 732, 733, 734, 735, 736, 737, 738, 762, 763, 764, 765, 766, 767, 768, 769, 775, 776, 777, 778, 779, 780, 781, 782, 783, 784, 785, 786, 787, 788, 789] (by decide +kernel) (by decide +kernel)
set_option maxRecDepth 20000 in
theorem gL_law_X6_night : GoodIn wsL_law (wsV RL 56 RX6 yX6_night wsX6_night) := goodIn_app (goodIn_of _ (by decide +kernel)) ggL_law_X6_night
set_option maxRecDepth 20000 in
theorem ggL_law_X7_night : GoodIn wsL_law wsX7_night := goodIn_r _ [462, 463, 123, 157, 158, 5, 159, 405, 406, 407, 408, 137, 409, 410, 411, 412, 464, 465, 466, 467, 124, 117, 118, 120, 116, 119, 739, 740, 741, 742, 743, 744, 745, 746, 747, 748, 749, 750, 751, 752, 753, 754, 755, 756, 757] (by decide +kernel) (by decide +kernel)
set_option maxRecDepth 20000 in
theorem gL_law_X7_night : GoodIn wsL_law (wsV RL 59 RX7 yX7_night wsX7_night) := goodIn_app (goodIn_of _ (by decide +kernel)) ggL_law_X7_night
set_option maxRecDepth 20000 in
theorem ggL_law_X6_undo : GoodIn wsL_law wsX6_undo := goodIn_r _ [471, 25, 20, 472, 473, 474, 24, 475, 287, 359, 360, 361, 362, 62, 363, 364, 365, 19, 366, 49, 51, 52, 104, 105, 106, 2, 107, 730, 731, 732, 733, 734, 735, 736, 737, 738, 768, 769, 762, 763, 764, 765, 766, 767] (by decide +kernel) (by decide +kernel)
set_option maxRecDepth 20000 in
theorem gL_law_X6_undo : GoodIn wsL_law (wsV RL 60 RX6 yX6_undo wsX6_undo) := goodIn_app (goodIn_of _ (by decide +kernel)) ggL_law_X6_undo
set_option maxRecDepth 20000 in
theorem ggL_law_X7_undo : GoodIn wsL_law wsX7_undo := goodIn_r _ [479, 137, 409, 410, 411, 5, 412, 123, 739, 740, 741, 742, 743, 744, 745, 746, 747, 748, 749, 750, 751, 752, 753, 754, 755, 756, 757] (by decide +kernel) (by decide +kernel)
set_option maxRecDepth 20000 in
theorem gL_law_X7_undo : GoodIn wsL_law (wsV RL 63 RX7 yX7_undo wsX7_undo) := goodIn_app (goodIn_of _ (by decide +kernel)) ggL_law_X7_undo
set_option maxRecDepth 20000 in
theorem ggL_law_X6_way : GoodIn wsL_law wsX6_way := goodIn_r _ [483, 30, 38, 20, 319, 320, 321, 2, 322, 484, 485, 486, 487, 488, 489, 490, 29, 491, 67, 66, 492, 493, 494, 495, 372, 373, 19, 374, 375, 376, 377, 378, 51, 197, 198, 379, 336, 337, 338, 49, 93, 94, 108, 109, 496, 497, 498, 499, 500, 501, 502, 503, 730, 731, 732, 733, 734, 735, 736, 737, 738, 775, 776, 777, 778, 779, 780, 781, 782, 783, 784, 785, 786, 787, 788, 789, 770, 771, 762, 763, 764, 765, 766, 767] (by decide +kernel) (by decide +kernel)
set_option maxRecDepth 20000 in
theorem gL_law_X6_way : GoodIn wsL_law (wsV RL 64 RX6 yX6_way wsX6_way) := goodIn_app (goodIn_of _ (by decide +kernel)) ggL_law_X6_way
set_option maxRecDepth 20000 in
theorem ggL_law_X7_way : GoodIn wsL_law wsX7_way := goodIn_r _ [507, 327, 328, 329, 5, 330, 120, 157, 158, 159, 508, 509, 510, 511, 116, 512, 513, 514, 515, 125, 516, 517, 518, 519, 520, 117, 118, 417, 418, 419, 420, 123, 739, 740, 741, 742, 743, 744, 745, 746, 747, 748, 749, 750, 751, 752, 753, 754, 755, 756, 757] (by decide +kernel) (by decide +kernel)
set_option maxRecDepth 20000 in
theorem gL_law_X7_way : GoodIn wsL_law (wsV RL 68 RX7 yX7_way wsX7_way) := goodIn_app (goodIn_of _ (by decide +kernel)) ggL_law_X7_way
set_option maxRecDepth 20000 in
theorem ggL_law_X6_first : GoodIn wsL_law wsX6_first := goodIn_r _ [524, 30, 38, 20, 319, 320, 321, 2, 322, 484, 485, 486, 487, 488, 489, 490, 29, 491, 67, 66, 492, 493, 494, 495, 372, 373, 19, 374, 375, 376, 377, 378, 51, 197, 198, 379, 336, 337, 338, 49, 93, 94, 108, 109, 496, 497, 498, 499, 525, 526, 527, 528, 529, 501, 502, 503, 530, 348, 349, 37, 350, 75, 76, 730, 731, 732, 733, 734, 735, 736, 737, 738, 775, 776, 777, 778, 779, 780, 781, 782, 783, 784, 785, 786, 787, 788, 789, 770, 771, 762, 763, 764, 765, 766, 767] (by decide +kernel) (by decide +kernel)
set_option maxRecDepth 20000 in
theorem gL_law_X6_first : GoodIn wsL_law (wsV RL 69 RX6 yX6_first wsX6_first) := goodIn_app (goodIn_of _ (by decide +kernel)) ggL_law_X6_first
set_option maxRecDepth 20000 in
theorem ggL_law_X7_first : GoodIn wsL_law wsX7_first := goodIn_r _ [534, 327, 328, 329, 5, 330, 120, 157, 158, 159, 508, 509, 510, 511, 116, 535, 536, 537, 538, 117, 125, 512, 513, 514, 515, 516, 517, 518, 519, 520, 118, 417, 418, 419, 420, 123, 401, 402, 403, 404, 425, 426, 427, 428, 739, 740, 741, 742, 743, 744, 745, 746, 747, 748, 749, 750, 751, 752, 753, 754, 755, 756, 757] (by decide +kernel) (by decide +kernel)
set_option maxRecDepth 20000 in
theorem gL_law_X7_first : GoodIn wsL_law (wsV RL 72 RX7 yX7_first wsX7_first) := goodIn_app (goodIn_of _ (by decide +kernel)) ggL_law_X7_first
set_option maxRecDepth 20000 in
theorem ggL_law_X6_inTime : GoodIn wsL_law wsX6_inTime := goodIn_r _ [542, 38, 319, 320, 321, 2, 322, 143, 144, 145, 543, 544, 545, 546, 547, 548, 549, 550, 551, 552, 553, 30, 20, 305, 197, 198, 488, 489, 490, 29, 491, 67, 66, 492, 493, 494, 495, 372, 373, 19, 374, 375, 376, 377, 378, 51, 379, 336, 337, 338, 49, 93, 94, 108, 109, 496, 497, 498, 499, 500, 501, 502, 503, 730, 731, 732, 733, 734, 735, 736, 737, 738, 775, 776, 777, 778, 779, 780, 781, 782, 783, 784, 785, 786, 787, 788, 789, 762, 763, 764, 765, 766, 767, 770, 771] (by decide +kernel) (by decide +kernel)
set_option maxRecDepth 20000 in
theorem gL_law_X6_inTime : GoodIn wsL_law (wsV RL 73 RX6 yX6_inTime wsX6_inTime) := goodIn_app (goodIn_of _ (by decide +kernel)) ggL_law_X6_inTime
set_option maxRecDepth 20000 in
theorem ggL_law_X7_inTime : GoodIn wsL_law wsX7_inTime := goodIn_r _ [557, 558, 117, 121, 125, 123, 327, 328, 329, 5, 330, 120, 157, 158, 159, 517, 518, 519, 520, 516, 118, 417, 418, 419, 420, 559, 560, 561, 739, 740, 741, 742, 743, 744, 745, 746, 747, 748, 749, 750, 751, 752, 753, 754, 755, 756, 757] (by decide +kernel) (by decide +kernel)
set_option maxRecDepth 20000 in
theorem gL_law_X7_inTime : GoodIn wsL_law (wsV RL 76 RX7 yX7_inTime wsX7_inTime) := goodIn_app (goodIn_of _ (by decide +kernel)) ggL_law_X7_inTime
set_option maxRecDepth 20000 in
theorem ggL_law_X6_rooms : GoodIn wsL_law wsX6_rooms := goodIn_r _ [565, 34, 38, 20, 30, 319, 320, 321, 2, 322, 566, 567, 568, 33, 569, 570, 571, 71, 197, 198, 572, 489, 490, 29, 491, 67, 66, 492, 493, 494, 495, 372, 373, 19, 374, 375, 376, 377, 378, 51, 379, 336, 337, 338, 49, 93, 94, 108, 109, 496, 497, 498, 499, 573, 501, 502, 503, 574, 575, 576, 577, 578, 579, 580, 581, 582, 583, 584, 585, 586, 587, 730, 731, 732, 733, 734, 735, 736, 737, 738, 775, 776, 777, 778, 779, 780, 781, 782, 783, 784, 785, 786, 787, 788, 789, 772, 773, 774, 770, 771, 762, 763, 764, 765, 766, 767] (by decide +kernel) (by decide +kernel)
set_option maxRecDepth 20000 in
theorem gL_law_X6_rooms : GoodIn wsL_law (wsV RL 77 RX6 yX6_rooms wsX6_rooms) := goodIn_app (goodIn_of _ (by decide +kernel)) ggL_law_X6_rooms
set_option maxRecDepth 20000 in
theorem ggL_law_X7_rooms : GoodIn wsL_law wsX7_rooms := goodIn_r _ [591, 592, 120, 593, 116, 126, 127, 157, 158, 5, 159, 594, 595, 596, 597, 121, 512, 513, 514, 515, 125, 516, 517, 518, 519, 520, 117, 118, 417, 418, 419, 420, 123, 739, 740, 741, 742, 743, 744, 745, 746, 747, 748, 749, 750, 751, 752, 753, 754, 755, 756, 757] (by decide +kernel) (by decide +kernel)
set_option maxRecDepth 20000 in
theorem gL_law_X7_rooms : GoodIn wsL_law (wsV RL 80 RX7 yX7_rooms wsX7_rooms) := goodIn_app (goodIn_of _ (by decide +kernel)) ggL_law_X7_rooms
set_option maxRecDepth 20000 in
theorem ggL_law_X6_behind : GoodIn wsL_law wsX6_behind := goodIn_r _ [601, 21, 20, 38, 143, 144, 2, 145, 301, 302, 303, 304, 319, 320, 321, 322, 602, 364, 365, 19, 366, 49, 51, 52, 104, 105, 106, 107, 603, 604, 605, 606, 450, 451, 452, 453, 50, 108, 109, 197, 198, 375, 376, 377, 378, 379, 336, 337, 338, 93, 94, 390, 391, 392, 58, 59, 60, 385, 386, 387, 388, 389, 393, 394, 395, 396, 454, 455, 456, 457, 458, 335, 730, 731, 732, 733, 734, 735, 736, 737, 738, 775, 776, 777, 778, 779, 780, 781, 782, 783, 784, 785, 786, 787, 788, 789, 762, 763, 764, 765, 766, 767] (by decide +kernel) (by decide +kernel)
set_option maxRecDepth 20000 in
theorem gL_law_X6_behind : GoodIn wsL_law (wsV RL 81 RX6 yX6_behind wsX6_behind) := goodIn_app (goodIn_of _ (by decide +kernel)) ggL_law_X6_behind
set_option maxRecDepth 20000 in
theorem ggL_law_X7_behind : GoodIn wsL_law wsX7_behind := goodIn_r _ [610, 123, 611, 612, 5, 613, 463, 157, 158, 159, 311, 312, 313, 314, 117, 327, 328, 329, 330, 120, 614, 615, 616, 617, 409, 410, 411, 412, 464, 465, 466, 467, 124, 118, 116, 119, 739, 740, 741, 742, 743, 744, 745, 746, 747, 748, 749, 750, 751, 752, 753, 754, 755, 756, 757] (by decide +kernel) (by decide +kernel)
set_option maxRecDepth 20000 in
theorem gL_law_X7_behind : GoodIn wsL_law (wsV RL 84 RX7 yX7_behind wsX7_behind) := goodIn_app (goodIn_of _ (by decide +kernel)) ggL_law_X7_behind
set_option maxRecDepth 20000 in
theorem ggL_law_X6_worst : GoodIn wsL_law wsX6_worst := goodIn_r _ [621, 21, 20, 38, 143, 144, 2, 145, 319, 320, 321, 322, 602, 364, 365, 19, 366, 49, 51, 52, 104, 105, 106, 107, 603, 604, 605, 606, 450, 451, 452, 453, 50, 108, 109, 197, 198, 375, 376, 377, 378, 379, 336, 337, 338, 93, 94, 390, 391, 392, 58, 59, 60, 385, 386, 387, 388, 389, 393, 394, 395, 396, 454, 455, 456, 457, 458, 335, 730, 731, 732, 733, 734, 735, 736, 737, 738, 775, 776, 777, 778, 779, 780, 781, 782, 783, 784, 785, 786, 787, 788, 789, 762, 763, 764, 765, 766, 767] (by decide +kernel) (by decide +kernel)
set_option maxRecDepth 20000 in
theorem gL_law_X6_worst : GoodIn wsL_law (wsV RL 85 RX6 yX6_worst wsX6_worst) := goodIn_app (goodIn_of _ (by decide +kernel)) ggL_law_X6_worst
set_option maxRecDepth 20000 in
theorem ggL_law_X7_worst : GoodIn wsL_law wsX7_worst := goodIn_r _ [625, 117, 123, 611, 612, 5, 613, 463, 157, 158, 159, 327, 328, 329, 330, 120, 614, 615, 616, 617, 409, 410, 411, 412, 464, 465, 466, 467, 124, 118, 116, 119, 739, 740, 741, 742, 743, 744, 745, 746, 747, 748, 749, 750, 751, 752, 753, 754, 755, 756, 757] (by decide +kernel) (by decide +kernel)
set_option maxRecDepth 20000 in
theorem gL_law_X7_worst : GoodIn wsL_law (wsV RL 88 RX7 yX7_worst wsX7_worst) := goodIn_app (goodIn_of _ (by decide +kernel)) ggL_law_X7_worst
set_option maxRecDepth 20000 in
theorem ggL_law_X6_stop : GoodIn wsL_law wsX6_stop := goodIn_r _ [629, 38, 143, 144, 2, 145, 301, 302, 303, 304, 319, 320, 321, 322, 543, 544, 545, 546, 547, 548, 549, 630, 493, 494, 631, 632, 633, 634, 21, 20, 602, 364, 365, 19, 366, 49, 51, 52, 104, 105, 106, 107, 433, 93, 94, 603, 604, 605, 606, 450, 451, 452, 453, 50, 108, 109, 197, 198, 375, 376, 377, 378, 379, 336, 337, 338, 390, 391, 392, 58, 59, 60, 385, 386, 387, 388, 389, 393, 394, 395, 396, 454, 455, 456, 457, 458, 335, 730, 731, 732, 733, 734, 735, 736, 737, 738, 775, 776, 777, 778, 779, 780, 781, 782, 783, 784, 785, 786, 787, 788, 789, 762, 763, 764, 765, 766, 767] (by decide +kernel) (by decide +kernel)
set_option maxRecDepth 20000 in
theorem gL_law_X6_stop : GoodIn wsL_law (wsV RL 89 RX6 yX6_stop wsX6_stop) := goodIn_app (goodIn_of _ (by decide +kernel)) ggL_law_X6_stop
set_option maxRecDepth 20000 in
theorem ggL_law_X7_stop : GoodIn wsL_law wsX7_stop := goodIn_r _ [638, 639, 117, 123, 611, 612, 5, 613, 463, 157, 158, 159, 311, 312, 313, 314, 327, 328, 329, 330, 120, 559, 560, 561, 614, 615, 616, 617, 409, 410, 411, 412, 464, 465, 466, 467, 124, 118, 116, 119, 739, 740, 741, 742, 743, 744, 745, 746, 747, 748, 749, 750, 751, 752, 753, 754, 755, 756, 757] (by decide +kernel) (by decide +kernel)
set_option maxRecDepth 20000 in
theorem gL_law_X7_stop : GoodIn wsL_law (wsV RL 93 RX7 yX7_stop wsX7_stop) := goodIn_app (goodIn_of _ (by decide +kernel)) ggL_law_X7_stop
set_option maxRecDepth 20000 in
theorem ggL_law_X6_how : GoodIn wsL_law wsX6_how := goodIn_r _ [643, 38, 387, 388, 59, 389, 143, 144, 2, 145, 319, 320, 321, 322, 301, 302, 303, 304, 644, 645, 646, 37, 647, 82, 197, 198, 493, 494, 648, 382, 383, 384, 80, 86, 385, 386, 390, 391, 392, 58, 60, 543, 544, 545, 546, 547, 548, 549, 730, 731, 732, 733, 734, 735, 736, 737, 738, 775, 776, 777, 778, 779, 780, 781, 782, 783, 784, 785, 786, 787, 788, 789] (by decide +kernel) (by decide +kernel)
set_option maxRecDepth 20000 in
theorem gL_law_X6_how : GoodIn wsL_law (wsV RL 94 RX6 yX6_how wsX6_how) := goodIn_app (goodIn_of _ (by decide +kernel)) ggL_law_X6_how
set_option maxRecDepth 20000 in
theorem ggL_law_X7_how : GoodIn wsL_law wsX7_how := goodIn_r _ [652, 155, 653, 122, 327, 328, 329, 5, 330, 120, 157, 158, 159, 311, 312, 313, 314, 117, 421, 422, 423, 424, 121, 116, 559, 560, 561, 739, 740, 741, 742, 743, 744, 745, 746, 747, 748, 749, 750, 751, 752, 753, 754, 755, 756, 757] (by decide +kernel) (by decide +kernel)
set_option maxRecDepth 20000 in
theorem gL_law_X7_how : GoodIn wsL_law (wsV RL 98 RX7 yX7_how wsX7_how) := goodIn_app (goodIn_of _ (by decide +kernel)) ggL_law_X7_how
set_option maxRecDepth 20000 in
theorem ggL_law_X6_fresh : GoodIn wsL_law wsX6_fresh := goodIn_r _ [657, 38, 301, 302, 303, 2, 304, 658, 659, 660, 661, 20, 662, 663, 664, 19, 665, 379, 336, 337, 338, 49, 197, 198, 730, 731, 732, 733, 734, 735, 736, 737, 738, 775, 776, 777, 778, 779, 780, 781, 782, 783, 784, 785, 786, 787, 788, 789, 762, 763, 764, 765, 766, 767] (by decide +kernel) (by decide +kernel)
set_option maxRecDepth 20000 in
theorem gL_law_X6_fresh : GoodIn wsL_law (wsV RL 99 RX6 yX6_fresh wsX6_fresh) := goodIn_app (goodIn_of _ (by decide +kernel)) ggL_law_X6_fresh
set_option maxRecDepth 20000 in
theorem ggL_law_X7_fresh : GoodIn wsL_law wsX7_fresh := goodIn_r _ [669, 117, 670, 671, 672, 5, 673, 120, 123, 311, 312, 313, 314, 157, 158, 159, 739, 740, 741, 742, 743, 744, 745, 746, 747, 748, 749, 750, 751, 752, 753, 754, 755, 756, 757] (by decide +kernel) (by decide +kernel)
set_option maxRecDepth 20000 in
theorem gL_law_X7_fresh : GoodIn wsL_law (wsV RL 102 RX7 yX7_fresh wsX7_fresh) := goodIn_app (goodIn_of _ (by decide +kernel)) ggL_law_X7_fresh
set_option maxRecDepth 20000 in
theorem ggL_law_X6_week : GoodIn wsL_law wsX6_week := goodIn_r _ [677, 21, 20, 678, 679, 680, 38, 143, 144, 2, 145, 602, 364, 365, 19, 366, 49, 51, 52, 104, 105, 106, 107, 681, 682, 683, 684, 305, 197, 198, 685, 686, 687, 688, 30, 488, 489, 490, 29, 491, 67, 66, 492, 493, 494, 495, 372, 373, 374, 375, 376, 377, 378, 379, 336, 337, 338, 93, 94, 108, 109, 496, 497, 498, 499, 525, 526, 527, 528, 529, 501, 502, 503, 530, 348, 349, 37, 350, 75, 76, 367, 368, 369, 370, 371, 380, 381, 382, 383, 384, 80, 86, 385, 386, 387, 388, 59, 389, 390, 391, 392, 58, 60, 393, 394, 395, 396, 446, 447, 448, 449, 450, 451, 452, 453, 50, 454, 455, 456, 457, 458, 689, 690, 691, 692, 693, 663, 664, 665, 730, 731, 732, 733, 734, 735, 736, 737, 738, 762, 763, 764, 765, 766, 767, 775, 776, 777, 778, 779, 780, 781, 782, 783, 784, 785, 786, 787, 788, 789, 770, 771] (by decide +kernel) (by decide +kernel)
set_option maxRecDepth 20000 in
theorem gL_law_X6_week : GoodIn wsL_law (wsV RL 103 RX6 yX6_week wsX6_week) := goodIn_app (goodIn_of _ (by decide +kernel)) ggL_law_X6_week
set_option maxRecDepth 20000 in
theorem ggL_law_X7_week : GoodIn wsL_law wsX7_week := goodIn_r _ [697, 698, 463, 699, 700, 701, 120, 123, 121, 117, 157, 158, 5, 159, 409, 410, 411, 412, 702, 703, 704, 705, 535, 536, 537, 538, 125, 512, 513, 514, 515, 516, 517, 518, 519, 520, 118, 417, 418, 419, 420, 401, 402, 403, 404, 425, 426, 427, 428, 413, 414, 415, 416, 421, 422, 423, 424, 116, 464, 465, 466, 467, 124, 119, 739, 740, 741, 742, 743, 744, 745, 746, 747, 748, 749, 750, 751, 752, 753, 754, 755, 756, 757] (by decide +kernel) (by decide +kernel)
set_option maxRecDepth 20000 in
theorem gL_law_X7_week : GoodIn wsL_law (wsV RL 106 RX7 yX7_week wsX7_week) := goodIn_app (goodIn_of _ (by decide +kernel)) ggL_law_X7_week
set_option maxRecDepth 20000 in
theorem ggL_law_X6_keep : GoodIn wsL_law wsX6_keep := goodIn_r _ [709, 26, 20, 351, 352, 353, 24, 354, 287, 62, 355, 356, 357, 358, 359, 360, 361, 362, 363, 364, 365, 19, 366, 49, 51, 52, 104, 105, 106, 2, 107, 730, 731, 732, 733, 734, 735, 736, 737, 738, 768, 769, 762, 763, 764, 765, 766, 767] (by decide +kernel) (by decide +kernel)
set_option maxRecDepth 20000 in
theorem gL_law_X6_keep : GoodIn wsL_law (wsV RL 107 RX6 yX6_keep wsX6_keep) := goodIn_app (goodIn_of _ (by decide +kernel)) ggL_law_X6_keep
set_option maxRecDepth 20000 in
theorem ggL_law_X7_keep : GoodIn wsL_law wsX7_keep := goodIn_r _ [713, 138, 409, 410, 411, 5, 412, 123, 739, 740, 741, 742, 743, 744, 745, 746, 747, 748, 749, 750, 751, 752, 753, 754, 755, 756, 757] (by decide +kernel) (by decide +kernel)
set_option maxRecDepth 20000 in
theorem gL_law_X7_keep : GoodIn wsL_law (wsV RL 110 RX7 yX7_keep wsX7_keep) := goodIn_app (goodIn_of _ (by decide +kernel)) ggL_law_X7_keep
set_option maxRecDepth 20000 in
theorem ggL_law_X6_back : GoodIn wsL_law wsX6_back := goodIn_r _ [717, 26, 20, 25, 472, 473, 474, 24, 475, 287, 359, 360, 361, 362, 62, 363, 364, 365, 19, 366, 49, 51, 52, 104, 105, 106, 2, 107, 283, 284, 285, 286, 730, 731, 732, 733, 734, 735, 736, 737, 738, 768, 769, 762, 763, 764, 765, 766, 767] (by decide +kernel) (by decide +kernel)
set_option maxRecDepth 20000 in
theorem gL_law_X6_back : GoodIn wsL_law (wsV RL 111 RX6 yX6_back wsX6_back) := goodIn_app (goodIn_of _ (by decide +kernel)) ggL_law_X6_back
set_option maxRecDepth 20000 in
theorem ggL_law_X7_back : GoodIn wsL_law wsX7_back := goodIn_r _ [721, 138, 137, 409, 410, 411, 5, 412, 123, 739, 740, 741, 742, 743, 744, 745, 746, 747, 748, 749, 750, 751, 752, 753, 754, 755, 756, 757] (by decide +kernel) (by decide +kernel)
set_option maxRecDepth 20000 in
theorem gL_law_X7_back : GoodIn wsL_law (wsV RL 114 RX7 yX7_back wsX7_back) := goodIn_app (goodIn_of _ (by decide +kernel)) ggL_law_X7_back
set_option maxRecDepth 20000 in
theorem ggL_law_X6_count : GoodIn wsL_law wsX6_count := goodIn_r _ [725, 38, 20, 25, 26, 16, 730, 731, 732, 733, 734, 735, 736, 737, 738, 775, 776, 777, 778, 779, 780, 781, 782, 783, 784, 785, 786, 787, 788, 789, 762, 763, 764, 765, 766, 767, 768, 769, 758, 759, 760, 761] (by decide +kernel) (by decide +kernel)
set_option maxRecDepth 20000 in
theorem gL_law_X6_count : GoodIn wsL_law (wsV RL 115 RX6 yX6_count wsX6_count) := goodIn_app (goodIn_of _ (by decide +kernel)) ggL_law_X6_count
set_option maxRecDepth 20000 in
theorem ggL_law_X7_count : GoodIn wsL_law wsX7_count := goodIn_r _ [729, 116, 117, 120, 123, 137, 138, 156, 739, 740, 741, 742, 743, 744, 745, 746, 747, 748, 749, 750, 751, 752, 753, 754, 755, 756, 757] (by decide +kernel) (by decide +kernel)
set_option maxRecDepth 20000 in
theorem gL_law_X7_count : GoodIn wsL_law (wsV RL 118 RX7 yX7_count wsX7_count) := goodIn_app (goodIn_of _ (by decide +kernel)) ggL_law_X7_count
theorem dL_law_0 : decode cL_law 0 = .ok (.new 7, 3) := by decide +kernel
theorem dL_law_3 : decode cL_law 3 = .ok (.dup, 1) := by decide +kernel
theorem dL_law_4 : decode cL_law 4 = .ok (.invokespecial 9, 3) := by decide +kernel
theorem dL_law_7 : decode cL_law 7 = .ok (.astore_n 1, 1) := by decide +kernel
theorem dL_law_8 : decode cL_law 8 = .ok (.new 10, 3) := by decide +kernel
theorem dL_law_11 : decode cL_law 11 = .ok (.dup, 1) := by decide +kernel
theorem dL_law_12 : decode cL_law 12 = .ok (.invokespecial 12, 3) := by decide +kernel
theorem dL_law_15 : decode cL_law 15 = .ok (.astore_n 2, 1) := by decide +kernel
theorem dL_law_16 : decode cL_law 16 = .ok (.iconst 0, 1) := by decide +kernel
theorem dL_law_17 : decode cL_law 17 = .ok (.istore_n 3, 1) := by decide +kernel
theorem dL_law_18 : decode cL_law 18 = .ok (.iload_n 3, 1) := by decide +kernel
theorem dL_law_19 : decode cL_law 19 = .ok (.aload_n 0, 1) := by decide +kernel
theorem dL_law_20 : decode cL_law 20 = .ok (.arraylength, 1) := by decide +kernel
theorem dL_law_21 : decode cL_law 21 = .ok (.bipush 6, 2) := by decide +kernel
theorem dL_law_23 : decode cL_law 23 = .ok (.isub, 1) := by decide +kernel
theorem dL_law_24 : decode cL_law 24 = .ok (.if_icmp .gt 894, 3) := by decide +kernel
theorem dL_law_27 : decode cL_law 27 = .ok (.aload_n 0, 1) := by decide +kernel
theorem dL_law_28 : decode cL_law 28 = .ok (.iload_n 3, 1) := by decide +kernel
theorem dL_law_29 : decode cL_law 29 = .ok (.iaload, 1) := by decide +kernel
theorem dL_law_30 : decode cL_law 30 = .ok (.bipush 31, 2) := by decide +kernel
theorem dL_law_32 : decode cL_law 32 = .ok (.iand, 1) := by decide +kernel
theorem dL_law_33 : decode cL_law 33 = .ok (.tableswitch 879 0 23 #[111, 174, 187, 200, 213, 246, 279, 312, 371, 394, 417, 430, 473, 516, 549, 572, 615, 648, 701, 764, 787, 830, 843, 856], 111) := by decide +kernel
theorem dL_law_144 : decode cL_law 144 = .ok (.aload_n 1, 1) := by decide +kernel
theorem dL_law_145 : decode cL_law 145 = .ok (.aload_n 0, 1) := by decide +kernel
theorem dL_law_146 : decode cL_law 146 = .ok (.iload_n 3, 1) := by decide +kernel
theorem dL_law_147 : decode cL_law 147 = .ok (.iconst 1, 1) := by decide +kernel
theorem dL_law_148 : decode cL_law 148 = .ok (.iadd, 1) := by decide +kernel
theorem dL_law_149 : decode cL_law 149 = .ok (.iaload, 1) := by decide +kernel
theorem dL_law_150 : decode cL_law 150 = .ok (.aload_n 0, 1) := by decide +kernel
theorem dL_law_151 : decode cL_law 151 = .ok (.iload_n 3, 1) := by decide +kernel
theorem dL_law_152 : decode cL_law 152 = .ok (.iconst 2, 1) := by decide +kernel
theorem dL_law_153 : decode cL_law 153 = .ok (.iadd, 1) := by decide +kernel
theorem dL_law_154 : decode cL_law 154 = .ok (.iaload, 1) := by decide +kernel
theorem dL_law_155 : decode cL_law 155 = .ok (.i2l, 1) := by decide +kernel
theorem dL_law_156 : decode cL_law 156 = .ok (.bipush 32, 2) := by decide +kernel
theorem dL_law_158 : decode cL_law 158 = .ok (.lshl, 1) := by decide +kernel
theorem dL_law_159 : decode cL_law 159 = .ok (.aload_n 0, 1) := by decide +kernel
theorem dL_law_160 : decode cL_law 160 = .ok (.iload_n 3, 1) := by decide +kernel
theorem dL_law_161 : decode cL_law 161 = .ok (.iconst 3, 1) := by decide +kernel
theorem dL_law_162 : decode cL_law 162 = .ok (.iadd, 1) := by decide +kernel
theorem dL_law_163 : decode cL_law 163 = .ok (.iaload, 1) := by decide +kernel
theorem dL_law_164 : decode cL_law 164 = .ok (.i2l, 1) := by decide +kernel
theorem dL_law_165 : decode cL_law 165 = .ok (.ldc2_w 13, 3) := by decide +kernel
theorem dL_law_168 : decode cL_law 168 = .ok (.land, 1) := by decide +kernel
theorem dL_law_169 : decode cL_law 169 = .ok (.lor, 1) := by decide +kernel
theorem dL_law_170 : decode cL_law 170 = .ok (.invokevirtual 15, 3) := by decide +kernel
theorem dL_law_173 : decode cL_law 173 = .ok (.aload_n 2, 1) := by decide +kernel
theorem dL_law_174 : decode cL_law 174 = .ok (.aload_n 0, 1) := by decide +kernel
theorem dL_law_175 : decode cL_law 175 = .ok (.iload_n 3, 1) := by decide +kernel
theorem dL_law_176 : decode cL_law 176 = .ok (.iconst 1, 1) := by decide +kernel
theorem dL_law_177 : decode cL_law 177 = .ok (.iadd, 1) := by decide +kernel
theorem dL_law_178 : decode cL_law 178 = .ok (.iaload, 1) := by decide +kernel
theorem dL_law_179 : decode cL_law 179 = .ok (.aload_n 0, 1) := by decide +kernel
theorem dL_law_180 : decode cL_law 180 = .ok (.iload_n 3, 1) := by decide +kernel
theorem dL_law_181 : decode cL_law 181 = .ok (.iconst 2, 1) := by decide +kernel
theorem dL_law_182 : decode cL_law 182 = .ok (.iadd, 1) := by decide +kernel
theorem dL_law_183 : decode cL_law 183 = .ok (.iaload, 1) := by decide +kernel
theorem dL_law_184 : decode cL_law 184 = .ok (.i2l, 1) := by decide +kernel
theorem dL_law_185 : decode cL_law 185 = .ok (.bipush 32, 2) := by decide +kernel
theorem dL_law_187 : decode cL_law 187 = .ok (.lshl, 1) := by decide +kernel
theorem dL_law_188 : decode cL_law 188 = .ok (.aload_n 0, 1) := by decide +kernel
theorem dL_law_189 : decode cL_law 189 = .ok (.iload_n 3, 1) := by decide +kernel
theorem dL_law_190 : decode cL_law 190 = .ok (.iconst 3, 1) := by decide +kernel
theorem dL_law_191 : decode cL_law 191 = .ok (.iadd, 1) := by decide +kernel
theorem dL_law_192 : decode cL_law 192 = .ok (.iaload, 1) := by decide +kernel
theorem dL_law_193 : decode cL_law 193 = .ok (.i2l, 1) := by decide +kernel
theorem dL_law_194 : decode cL_law 194 = .ok (.ldc2_w 13, 3) := by decide +kernel
theorem dL_law_197 : decode cL_law 197 = .ok (.land, 1) := by decide +kernel
theorem dL_law_198 : decode cL_law 198 = .ok (.lor, 1) := by decide +kernel
theorem dL_law_199 : decode cL_law 199 = .ok (.invokevirtual 19, 3) := by decide +kernel
theorem dL_law_202 : decode cL_law 202 = .ok (.if_icmp .eq 710, 3) := by decide +kernel
theorem dL_law_205 : decode cL_law 205 = .ok (.iconst 0, 1) := by decide +kernel
theorem dL_law_206 : decode cL_law 206 = .ok (.ireturn, 1) := by decide +kernel
theorem dL_law_207 : decode cL_law 207 = .ok (.aload_n 1, 1) := by decide +kernel
theorem dL_law_208 : decode cL_law 208 = .ok (.invokevirtual 20, 3) := by decide +kernel
theorem dL_law_211 : decode cL_law 211 = .ok (.aload_n 2, 1) := by decide +kernel
theorem dL_law_212 : decode cL_law 212 = .ok (.invokevirtual 24, 3) := by decide +kernel
theorem dL_law_215 : decode cL_law 215 = .ok (.if_icmp .eq 697, 3) := by decide +kernel
theorem dL_law_218 : decode cL_law 218 = .ok (.iconst 0, 1) := by decide +kernel
theorem dL_law_219 : decode cL_law 219 = .ok (.ireturn, 1) := by decide +kernel
theorem dL_law_220 : decode cL_law 220 = .ok (.aload_n 1, 1) := by decide +kernel
theorem dL_law_221 : decode cL_law 221 = .ok (.invokevirtual 25, 3) := by decide +kernel
theorem dL_law_224 : decode cL_law 224 = .ok (.aload_n 2, 1) := by decide +kernel
theorem dL_law_225 : decode cL_law 225 = .ok (.invokevirtual 28, 3) := by decide +kernel
theorem dL_law_228 : decode cL_law 228 = .ok (.if_icmp .eq 684, 3) := by decide +kernel
theorem dL_law_231 : decode cL_law 231 = .ok (.iconst 0, 1) := by decide +kernel
theorem dL_law_232 : decode cL_law 232 = .ok (.ireturn, 1) := by decide +kernel
theorem dL_law_233 : decode cL_law 233 = .ok (.aload_n 1, 1) := by decide +kernel
theorem dL_law_234 : decode cL_law 234 = .ok (.invokevirtual 29, 3) := by decide +kernel
theorem dL_law_237 : decode cL_law 237 = .ok (.aload_n 2, 1) := by decide +kernel
theorem dL_law_238 : decode cL_law 238 = .ok (.invokevirtual 32, 3) := by decide +kernel
theorem dL_law_241 : decode cL_law 241 = .ok (.if_icmp .eq 671, 3) := by decide +kernel
theorem dL_law_244 : decode cL_law 244 = .ok (.iconst 0, 1) := by decide +kernel
theorem dL_law_245 : decode cL_law 245 = .ok (.ireturn, 1) := by decide +kernel
theorem dL_law_246 : decode cL_law 246 = .ok (.aload_n 1, 1) := by decide +kernel
theorem dL_law_247 : decode cL_law 247 = .ok (.aload_n 0, 1) := by decide +kernel
theorem dL_law_248 : decode cL_law 248 = .ok (.iload_n 3, 1) := by decide +kernel
theorem dL_law_249 : decode cL_law 249 = .ok (.iconst 1, 1) := by decide +kernel
theorem dL_law_250 : decode cL_law 250 = .ok (.iadd, 1) := by decide +kernel
theorem dL_law_251 : decode cL_law 251 = .ok (.iaload, 1) := by decide +kernel
theorem dL_law_252 : decode cL_law 252 = .ok (.aload_n 0, 1) := by decide +kernel
theorem dL_law_253 : decode cL_law 253 = .ok (.iload_n 3, 1) := by decide +kernel
theorem dL_law_254 : decode cL_law 254 = .ok (.iconst 2, 1) := by decide +kernel
theorem dL_law_255 : decode cL_law 255 = .ok (.iadd, 1) := by decide +kernel
theorem dL_law_256 : decode cL_law 256 = .ok (.iaload, 1) := by decide +kernel
theorem dL_law_257 : decode cL_law 257 = .ok (.invokevirtual 33, 3) := by decide +kernel
theorem dL_law_260 : decode cL_law 260 = .ok (.aload_n 2, 1) := by decide +kernel
theorem dL_law_261 : decode cL_law 261 = .ok (.aload_n 0, 1) := by decide +kernel
theorem dL_law_262 : decode cL_law 262 = .ok (.iload_n 3, 1) := by decide +kernel
theorem dL_law_263 : decode cL_law 263 = .ok (.iconst 1, 1) := by decide +kernel
theorem dL_law_264 : decode cL_law 264 = .ok (.iadd, 1) := by decide +kernel
theorem dL_law_265 : decode cL_law 265 = .ok (.iaload, 1) := by decide +kernel
theorem dL_law_266 : decode cL_law 266 = .ok (.aload_n 0, 1) := by decide +kernel
theorem dL_law_267 : decode cL_law 267 = .ok (.iload_n 3, 1) := by decide +kernel
theorem dL_law_268 : decode cL_law 268 = .ok (.iconst 2, 1) := by decide +kernel
theorem dL_law_269 : decode cL_law 269 = .ok (.iadd, 1) := by decide +kernel
theorem dL_law_270 : decode cL_law 270 = .ok (.iaload, 1) := by decide +kernel
theorem dL_law_271 : decode cL_law 271 = .ok (.invokevirtual 37, 3) := by decide +kernel
theorem dL_law_274 : decode cL_law 274 = .ok (.if_icmp .eq 638, 3) := by decide +kernel
theorem dL_law_277 : decode cL_law 277 = .ok (.iconst 0, 1) := by decide +kernel
theorem dL_law_278 : decode cL_law 278 = .ok (.ireturn, 1) := by decide +kernel
theorem dL_law_279 : decode cL_law 279 = .ok (.aload_n 1, 1) := by decide +kernel
theorem dL_law_280 : decode cL_law 280 = .ok (.aload_n 0, 1) := by decide +kernel
theorem dL_law_281 : decode cL_law 281 = .ok (.iload_n 3, 1) := by decide +kernel
theorem dL_law_282 : decode cL_law 282 = .ok (.iconst 1, 1) := by decide +kernel
theorem dL_law_283 : decode cL_law 283 = .ok (.iadd, 1) := by decide +kernel
theorem dL_law_284 : decode cL_law 284 = .ok (.iaload, 1) := by decide +kernel
theorem dL_law_285 : decode cL_law 285 = .ok (.aload_n 0, 1) := by decide +kernel
theorem dL_law_286 : decode cL_law 286 = .ok (.iload_n 3, 1) := by decide +kernel
theorem dL_law_287 : decode cL_law 287 = .ok (.iconst 2, 1) := by decide +kernel
theorem dL_law_288 : decode cL_law 288 = .ok (.iadd, 1) := by decide +kernel
theorem dL_law_289 : decode cL_law 289 = .ok (.iaload, 1) := by decide +kernel
theorem dL_law_290 : decode cL_law 290 = .ok (.invokevirtual 38, 3) := by decide +kernel
theorem dL_law_293 : decode cL_law 293 = .ok (.aload_n 2, 1) := by decide +kernel
theorem dL_law_294 : decode cL_law 294 = .ok (.aload_n 0, 1) := by decide +kernel
theorem dL_law_295 : decode cL_law 295 = .ok (.iload_n 3, 1) := by decide +kernel
theorem dL_law_296 : decode cL_law 296 = .ok (.iconst 1, 1) := by decide +kernel
theorem dL_law_297 : decode cL_law 297 = .ok (.iadd, 1) := by decide +kernel
theorem dL_law_298 : decode cL_law 298 = .ok (.iaload, 1) := by decide +kernel
theorem dL_law_299 : decode cL_law 299 = .ok (.aload_n 0, 1) := by decide +kernel
theorem dL_law_300 : decode cL_law 300 = .ok (.iload_n 3, 1) := by decide +kernel
theorem dL_law_301 : decode cL_law 301 = .ok (.iconst 2, 1) := by decide +kernel
theorem dL_law_302 : decode cL_law 302 = .ok (.iadd, 1) := by decide +kernel
theorem dL_law_303 : decode cL_law 303 = .ok (.iaload, 1) := by decide +kernel
theorem dL_law_304 : decode cL_law 304 = .ok (.invokevirtual 41, 3) := by decide +kernel
theorem dL_law_307 : decode cL_law 307 = .ok (.if_icmp .eq 605, 3) := by decide +kernel
theorem dL_law_310 : decode cL_law 310 = .ok (.iconst 0, 1) := by decide +kernel
theorem dL_law_311 : decode cL_law 311 = .ok (.ireturn, 1) := by decide +kernel
theorem dL_law_312 : decode cL_law 312 = .ok (.aload_n 1, 1) := by decide +kernel
theorem dL_law_313 : decode cL_law 313 = .ok (.aload_n 0, 1) := by decide +kernel
theorem dL_law_314 : decode cL_law 314 = .ok (.iload_n 3, 1) := by decide +kernel
theorem dL_law_315 : decode cL_law 315 = .ok (.iconst 1, 1) := by decide +kernel
theorem dL_law_316 : decode cL_law 316 = .ok (.iadd, 1) := by decide +kernel
theorem dL_law_317 : decode cL_law 317 = .ok (.iaload, 1) := by decide +kernel
theorem dL_law_318 : decode cL_law 318 = .ok (.aload_n 0, 1) := by decide +kernel
theorem dL_law_319 : decode cL_law 319 = .ok (.iload_n 3, 1) := by decide +kernel
theorem dL_law_320 : decode cL_law 320 = .ok (.iconst 2, 1) := by decide +kernel
theorem dL_law_321 : decode cL_law 321 = .ok (.iadd, 1) := by decide +kernel
theorem dL_law_322 : decode cL_law 322 = .ok (.iaload, 1) := by decide +kernel
theorem dL_law_323 : decode cL_law 323 = .ok (.invokevirtual 42, 3) := by decide +kernel
theorem dL_law_326 : decode cL_law 326 = .ok (.aload_n 2, 1) := by decide +kernel
theorem dL_law_327 : decode cL_law 327 = .ok (.aload_n 0, 1) := by decide +kernel
theorem dL_law_328 : decode cL_law 328 = .ok (.iload_n 3, 1) := by decide +kernel
theorem dL_law_329 : decode cL_law 329 = .ok (.iconst 1, 1) := by decide +kernel
theorem dL_law_330 : decode cL_law 330 = .ok (.iadd, 1) := by decide +kernel
theorem dL_law_331 : decode cL_law 331 = .ok (.iaload, 1) := by decide +kernel
theorem dL_law_332 : decode cL_law 332 = .ok (.aload_n 0, 1) := by decide +kernel
theorem dL_law_333 : decode cL_law 333 = .ok (.iload_n 3, 1) := by decide +kernel
theorem dL_law_334 : decode cL_law 334 = .ok (.iconst 2, 1) := by decide +kernel
theorem dL_law_335 : decode cL_law 335 = .ok (.iadd, 1) := by decide +kernel
theorem dL_law_336 : decode cL_law 336 = .ok (.iaload, 1) := by decide +kernel
theorem dL_law_337 : decode cL_law 337 = .ok (.invokevirtual 45, 3) := by decide +kernel
theorem dL_law_340 : decode cL_law 340 = .ok (.if_icmp .eq 572, 3) := by decide +kernel
theorem dL_law_343 : decode cL_law 343 = .ok (.iconst 0, 1) := by decide +kernel
theorem dL_law_344 : decode cL_law 344 = .ok (.ireturn, 1) := by decide +kernel
theorem dL_law_345 : decode cL_law 345 = .ok (.aload_n 1, 1) := by decide +kernel
theorem dL_law_346 : decode cL_law 346 = .ok (.aload_n 0, 1) := by decide +kernel
theorem dL_law_347 : decode cL_law 347 = .ok (.iload_n 3, 1) := by decide +kernel
theorem dL_law_348 : decode cL_law 348 = .ok (.iconst 1, 1) := by decide +kernel
theorem dL_law_349 : decode cL_law 349 = .ok (.iadd, 1) := by decide +kernel
theorem dL_law_350 : decode cL_law 350 = .ok (.iaload, 1) := by decide +kernel
theorem dL_law_351 : decode cL_law 351 = .ok (.aload_n 0, 1) := by decide +kernel
theorem dL_law_352 : decode cL_law 352 = .ok (.iload_n 3, 1) := by decide +kernel
theorem dL_law_353 : decode cL_law 353 = .ok (.iconst 2, 1) := by decide +kernel
theorem dL_law_354 : decode cL_law 354 = .ok (.iadd, 1) := by decide +kernel
theorem dL_law_355 : decode cL_law 355 = .ok (.iaload, 1) := by decide +kernel
theorem dL_law_356 : decode cL_law 356 = .ok (.aload_n 0, 1) := by decide +kernel
theorem dL_law_357 : decode cL_law 357 = .ok (.iload_n 3, 1) := by decide +kernel
theorem dL_law_358 : decode cL_law 358 = .ok (.iconst 3, 1) := by decide +kernel
theorem dL_law_359 : decode cL_law 359 = .ok (.iadd, 1) := by decide +kernel
theorem dL_law_360 : decode cL_law 360 = .ok (.iaload, 1) := by decide +kernel
theorem dL_law_361 : decode cL_law 361 = .ok (.ifCond .eq 7, 3) := by decide +kernel
theorem dL_law_364 : decode cL_law 364 = .ok (.iconst 1, 1) := by decide +kernel
theorem dL_law_365 : decode cL_law 365 = .ok (.goto 4, 3) := by decide +kernel
theorem dL_law_368 : decode cL_law 368 = .ok (.iconst 0, 1) := by decide +kernel
theorem dL_law_369 : decode cL_law 369 = .ok (.invokevirtual 46, 3) := by decide +kernel
theorem dL_law_372 : decode cL_law 372 = .ok (.aload_n 2, 1) := by decide +kernel
theorem dL_law_373 : decode cL_law 373 = .ok (.aload_n 0, 1) := by decide +kernel
theorem dL_law_374 : decode cL_law 374 = .ok (.iload_n 3, 1) := by decide +kernel
theorem dL_law_375 : decode cL_law 375 = .ok (.iconst 1, 1) := by decide +kernel
theorem dL_law_376 : decode cL_law 376 = .ok (.iadd, 1) := by decide +kernel
theorem dL_law_377 : decode cL_law 377 = .ok (.iaload, 1) := by decide +kernel
theorem dL_law_378 : decode cL_law 378 = .ok (.aload_n 0, 1) := by decide +kernel
theorem dL_law_379 : decode cL_law 379 = .ok (.iload_n 3, 1) := by decide +kernel
theorem dL_law_380 : decode cL_law 380 = .ok (.iconst 2, 1) := by decide +kernel
theorem dL_law_381 : decode cL_law 381 = .ok (.iadd, 1) := by decide +kernel
theorem dL_law_382 : decode cL_law 382 = .ok (.iaload, 1) := by decide +kernel
theorem dL_law_383 : decode cL_law 383 = .ok (.aload_n 0, 1) := by decide +kernel
theorem dL_law_384 : decode cL_law 384 = .ok (.iload_n 3, 1) := by decide +kernel
theorem dL_law_385 : decode cL_law 385 = .ok (.iconst 3, 1) := by decide +kernel
theorem dL_law_386 : decode cL_law 386 = .ok (.iadd, 1) := by decide +kernel
theorem dL_law_387 : decode cL_law 387 = .ok (.iaload, 1) := by decide +kernel
theorem dL_law_388 : decode cL_law 388 = .ok (.ifCond .eq 7, 3) := by decide +kernel
theorem dL_law_391 : decode cL_law 391 = .ok (.iconst 1, 1) := by decide +kernel
theorem dL_law_392 : decode cL_law 392 = .ok (.goto 4, 3) := by decide +kernel
theorem dL_law_395 : decode cL_law 395 = .ok (.iconst 0, 1) := by decide +kernel
theorem dL_law_396 : decode cL_law 396 = .ok (.invokevirtual 50, 3) := by decide +kernel
theorem dL_law_399 : decode cL_law 399 = .ok (.if_icmp .eq 513, 3) := by decide +kernel
theorem dL_law_402 : decode cL_law 402 = .ok (.iconst 0, 1) := by decide +kernel
theorem dL_law_403 : decode cL_law 403 = .ok (.ireturn, 1) := by decide +kernel
theorem dL_law_404 : decode cL_law 404 = .ok (.aload_n 1, 1) := by decide +kernel
theorem dL_law_405 : decode cL_law 405 = .ok (.aload_n 0, 1) := by decide +kernel
theorem dL_law_406 : decode cL_law 406 = .ok (.iload_n 3, 1) := by decide +kernel
theorem dL_law_407 : decode cL_law 407 = .ok (.iconst 1, 1) := by decide +kernel
theorem dL_law_408 : decode cL_law 408 = .ok (.iadd, 1) := by decide +kernel
theorem dL_law_409 : decode cL_law 409 = .ok (.iaload, 1) := by decide +kernel
theorem dL_law_410 : decode cL_law 410 = .ok (.invokevirtual 51, 3) := by decide +kernel
theorem dL_law_413 : decode cL_law 413 = .ok (.aload_n 2, 1) := by decide +kernel
theorem dL_law_414 : decode cL_law 414 = .ok (.aload_n 0, 1) := by decide +kernel
theorem dL_law_415 : decode cL_law 415 = .ok (.iload_n 3, 1) := by decide +kernel
theorem dL_law_416 : decode cL_law 416 = .ok (.iconst 1, 1) := by decide +kernel
theorem dL_law_417 : decode cL_law 417 = .ok (.iadd, 1) := by decide +kernel
theorem dL_law_418 : decode cL_law 418 = .ok (.iaload, 1) := by decide +kernel
theorem dL_law_419 : decode cL_law 419 = .ok (.invokevirtual 55, 3) := by decide +kernel
theorem dL_law_422 : decode cL_law 422 = .ok (.if_icmp .eq 490, 3) := by decide +kernel
theorem dL_law_425 : decode cL_law 425 = .ok (.iconst 0, 1) := by decide +kernel
theorem dL_law_426 : decode cL_law 426 = .ok (.ireturn, 1) := by decide +kernel
theorem dL_law_427 : decode cL_law 427 = .ok (.aload_n 1, 1) := by decide +kernel
theorem dL_law_428 : decode cL_law 428 = .ok (.aload_n 0, 1) := by decide +kernel
theorem dL_law_429 : decode cL_law 429 = .ok (.iload_n 3, 1) := by decide +kernel
theorem dL_law_430 : decode cL_law 430 = .ok (.iconst 1, 1) := by decide +kernel
theorem dL_law_431 : decode cL_law 431 = .ok (.iadd, 1) := by decide +kernel
theorem dL_law_432 : decode cL_law 432 = .ok (.iaload, 1) := by decide +kernel
theorem dL_law_433 : decode cL_law 433 = .ok (.invokevirtual 56, 3) := by decide +kernel
theorem dL_law_436 : decode cL_law 436 = .ok (.aload_n 2, 1) := by decide +kernel
theorem dL_law_437 : decode cL_law 437 = .ok (.aload_n 0, 1) := by decide +kernel
theorem dL_law_438 : decode cL_law 438 = .ok (.iload_n 3, 1) := by decide +kernel
theorem dL_law_439 : decode cL_law 439 = .ok (.iconst 1, 1) := by decide +kernel
theorem dL_law_440 : decode cL_law 440 = .ok (.iadd, 1) := by decide +kernel
theorem dL_law_441 : decode cL_law 441 = .ok (.iaload, 1) := by decide +kernel
theorem dL_law_442 : decode cL_law 442 = .ok (.invokevirtual 59, 3) := by decide +kernel
theorem dL_law_445 : decode cL_law 445 = .ok (.if_icmp .eq 467, 3) := by decide +kernel
theorem dL_law_448 : decode cL_law 448 = .ok (.iconst 0, 1) := by decide +kernel
theorem dL_law_449 : decode cL_law 449 = .ok (.ireturn, 1) := by decide +kernel
theorem dL_law_450 : decode cL_law 450 = .ok (.aload_n 1, 1) := by decide +kernel
theorem dL_law_451 : decode cL_law 451 = .ok (.invokevirtual 60, 3) := by decide +kernel
theorem dL_law_454 : decode cL_law 454 = .ok (.aload_n 2, 1) := by decide +kernel
theorem dL_law_455 : decode cL_law 455 = .ok (.invokevirtual 63, 3) := by decide +kernel
theorem dL_law_458 : decode cL_law 458 = .ok (.if_icmp .eq 454, 3) := by decide +kernel
theorem dL_law_461 : decode cL_law 461 = .ok (.iconst 0, 1) := by decide +kernel
theorem dL_law_462 : decode cL_law 462 = .ok (.ireturn, 1) := by decide +kernel
theorem dL_law_463 : decode cL_law 463 = .ok (.aload_n 1, 1) := by decide +kernel
theorem dL_law_464 : decode cL_law 464 = .ok (.aload_n 0, 1) := by decide +kernel
theorem dL_law_465 : decode cL_law 465 = .ok (.iload_n 3, 1) := by decide +kernel
theorem dL_law_466 : decode cL_law 466 = .ok (.iconst 1, 1) := by decide +kernel
theorem dL_law_467 : decode cL_law 467 = .ok (.iadd, 1) := by decide +kernel
theorem dL_law_468 : decode cL_law 468 = .ok (.iaload, 1) := by decide +kernel
theorem dL_law_469 : decode cL_law 469 = .ok (.aload_n 0, 1) := by decide +kernel
theorem dL_law_470 : decode cL_law 470 = .ok (.iload_n 3, 1) := by decide +kernel
theorem dL_law_471 : decode cL_law 471 = .ok (.iconst 2, 1) := by decide +kernel
theorem dL_law_472 : decode cL_law 472 = .ok (.iadd, 1) := by decide +kernel
theorem dL_law_473 : decode cL_law 473 = .ok (.iaload, 1) := by decide +kernel
theorem dL_law_474 : decode cL_law 474 = .ok (.aload_n 0, 1) := by decide +kernel
theorem dL_law_475 : decode cL_law 475 = .ok (.iload_n 3, 1) := by decide +kernel
theorem dL_law_476 : decode cL_law 476 = .ok (.iconst 3, 1) := by decide +kernel
theorem dL_law_477 : decode cL_law 477 = .ok (.iadd, 1) := by decide +kernel
theorem dL_law_478 : decode cL_law 478 = .ok (.iaload, 1) := by decide +kernel
theorem dL_law_479 : decode cL_law 479 = .ok (.invokevirtual 64, 3) := by decide +kernel
theorem dL_law_482 : decode cL_law 482 = .ok (.aload_n 2, 1) := by decide +kernel
theorem dL_law_483 : decode cL_law 483 = .ok (.aload_n 0, 1) := by decide +kernel
theorem dL_law_484 : decode cL_law 484 = .ok (.iload_n 3, 1) := by decide +kernel
theorem dL_law_485 : decode cL_law 485 = .ok (.iconst 1, 1) := by decide +kernel
theorem dL_law_486 : decode cL_law 486 = .ok (.iadd, 1) := by decide +kernel
theorem dL_law_487 : decode cL_law 487 = .ok (.iaload, 1) := by decide +kernel
theorem dL_law_488 : decode cL_law 488 = .ok (.aload_n 0, 1) := by decide +kernel
theorem dL_law_489 : decode cL_law 489 = .ok (.iload_n 3, 1) := by decide +kernel
theorem dL_law_490 : decode cL_law 490 = .ok (.iconst 2, 1) := by decide +kernel
theorem dL_law_491 : decode cL_law 491 = .ok (.iadd, 1) := by decide +kernel
theorem dL_law_492 : decode cL_law 492 = .ok (.iaload, 1) := by decide +kernel
theorem dL_law_493 : decode cL_law 493 = .ok (.aload_n 0, 1) := by decide +kernel
theorem dL_law_494 : decode cL_law 494 = .ok (.iload_n 3, 1) := by decide +kernel
theorem dL_law_495 : decode cL_law 495 = .ok (.iconst 3, 1) := by decide +kernel
theorem dL_law_496 : decode cL_law 496 = .ok (.iadd, 1) := by decide +kernel
theorem dL_law_497 : decode cL_law 497 = .ok (.iaload, 1) := by decide +kernel
theorem dL_law_498 : decode cL_law 498 = .ok (.invokevirtual 68, 3) := by decide +kernel
theorem dL_law_501 : decode cL_law 501 = .ok (.if_icmp .eq 411, 3) := by decide +kernel
theorem dL_law_504 : decode cL_law 504 = .ok (.iconst 0, 1) := by decide +kernel
theorem dL_law_505 : decode cL_law 505 = .ok (.ireturn, 1) := by decide +kernel
theorem dL_law_506 : decode cL_law 506 = .ok (.aload_n 1, 1) := by decide +kernel
theorem dL_law_507 : decode cL_law 507 = .ok (.aload_n 0, 1) := by decide +kernel
theorem dL_law_508 : decode cL_law 508 = .ok (.iload_n 3, 1) := by decide +kernel
theorem dL_law_509 : decode cL_law 509 = .ok (.iconst 1, 1) := by decide +kernel
theorem dL_law_510 : decode cL_law 510 = .ok (.iadd, 1) := by decide +kernel
theorem dL_law_511 : decode cL_law 511 = .ok (.iaload, 1) := by decide +kernel
theorem dL_law_512 : decode cL_law 512 = .ok (.aload_n 0, 1) := by decide +kernel
theorem dL_law_513 : decode cL_law 513 = .ok (.iload_n 3, 1) := by decide +kernel
theorem dL_law_514 : decode cL_law 514 = .ok (.iconst 2, 1) := by decide +kernel
theorem dL_law_515 : decode cL_law 515 = .ok (.iadd, 1) := by decide +kernel
theorem dL_law_516 : decode cL_law 516 = .ok (.iaload, 1) := by decide +kernel
theorem dL_law_517 : decode cL_law 517 = .ok (.aload_n 0, 1) := by decide +kernel
theorem dL_law_518 : decode cL_law 518 = .ok (.iload_n 3, 1) := by decide +kernel
theorem dL_law_519 : decode cL_law 519 = .ok (.iconst 3, 1) := by decide +kernel
theorem dL_law_520 : decode cL_law 520 = .ok (.iadd, 1) := by decide +kernel
theorem dL_law_521 : decode cL_law 521 = .ok (.iaload, 1) := by decide +kernel
theorem dL_law_522 : decode cL_law 522 = .ok (.invokevirtual 69, 3) := by decide +kernel
theorem dL_law_525 : decode cL_law 525 = .ok (.aload_n 2, 1) := by decide +kernel
theorem dL_law_526 : decode cL_law 526 = .ok (.aload_n 0, 1) := by decide +kernel
theorem dL_law_527 : decode cL_law 527 = .ok (.iload_n 3, 1) := by decide +kernel
theorem dL_law_528 : decode cL_law 528 = .ok (.iconst 1, 1) := by decide +kernel
theorem dL_law_529 : decode cL_law 529 = .ok (.iadd, 1) := by decide +kernel
theorem dL_law_530 : decode cL_law 530 = .ok (.iaload, 1) := by decide +kernel
theorem dL_law_531 : decode cL_law 531 = .ok (.aload_n 0, 1) := by decide +kernel
theorem dL_law_532 : decode cL_law 532 = .ok (.iload_n 3, 1) := by decide +kernel
theorem dL_law_533 : decode cL_law 533 = .ok (.iconst 2, 1) := by decide +kernel
theorem dL_law_534 : decode cL_law 534 = .ok (.iadd, 1) := by decide +kernel
theorem dL_law_535 : decode cL_law 535 = .ok (.iaload, 1) := by decide +kernel
theorem dL_law_536 : decode cL_law 536 = .ok (.aload_n 0, 1) := by decide +kernel
theorem dL_law_537 : decode cL_law 537 = .ok (.iload_n 3, 1) := by decide +kernel
theorem dL_law_538 : decode cL_law 538 = .ok (.iconst 3, 1) := by decide +kernel
theorem dL_law_539 : decode cL_law 539 = .ok (.iadd, 1) := by decide +kernel
theorem dL_law_540 : decode cL_law 540 = .ok (.iaload, 1) := by decide +kernel
theorem dL_law_541 : decode cL_law 541 = .ok (.invokevirtual 72, 3) := by decide +kernel
theorem dL_law_544 : decode cL_law 544 = .ok (.if_icmp .eq 368, 3) := by decide +kernel
theorem dL_law_547 : decode cL_law 547 = .ok (.iconst 0, 1) := by decide +kernel
theorem dL_law_548 : decode cL_law 548 = .ok (.ireturn, 1) := by decide +kernel
theorem dL_law_549 : decode cL_law 549 = .ok (.aload_n 1, 1) := by decide +kernel
theorem dL_law_550 : decode cL_law 550 = .ok (.aload_n 0, 1) := by decide +kernel
theorem dL_law_551 : decode cL_law 551 = .ok (.iload_n 3, 1) := by decide +kernel
theorem dL_law_552 : decode cL_law 552 = .ok (.iconst 1, 1) := by decide +kernel
theorem dL_law_553 : decode cL_law 553 = .ok (.iadd, 1) := by decide +kernel
theorem dL_law_554 : decode cL_law 554 = .ok (.iaload, 1) := by decide +kernel
theorem dL_law_555 : decode cL_law 555 = .ok (.aload_n 0, 1) := by decide +kernel
theorem dL_law_556 : decode cL_law 556 = .ok (.iload_n 3, 1) := by decide +kernel
theorem dL_law_557 : decode cL_law 557 = .ok (.iconst 2, 1) := by decide +kernel
theorem dL_law_558 : decode cL_law 558 = .ok (.iadd, 1) := by decide +kernel
theorem dL_law_559 : decode cL_law 559 = .ok (.iaload, 1) := by decide +kernel
theorem dL_law_560 : decode cL_law 560 = .ok (.invokevirtual 73, 3) := by decide +kernel
theorem dL_law_563 : decode cL_law 563 = .ok (.aload_n 2, 1) := by decide +kernel
theorem dL_law_564 : decode cL_law 564 = .ok (.aload_n 0, 1) := by decide +kernel
theorem dL_law_565 : decode cL_law 565 = .ok (.iload_n 3, 1) := by decide +kernel
theorem dL_law_566 : decode cL_law 566 = .ok (.iconst 1, 1) := by decide +kernel
theorem dL_law_567 : decode cL_law 567 = .ok (.iadd, 1) := by decide +kernel
theorem dL_law_568 : decode cL_law 568 = .ok (.iaload, 1) := by decide +kernel
theorem dL_law_569 : decode cL_law 569 = .ok (.aload_n 0, 1) := by decide +kernel
theorem dL_law_570 : decode cL_law 570 = .ok (.iload_n 3, 1) := by decide +kernel
theorem dL_law_571 : decode cL_law 571 = .ok (.iconst 2, 1) := by decide +kernel
theorem dL_law_572 : decode cL_law 572 = .ok (.iadd, 1) := by decide +kernel
theorem dL_law_573 : decode cL_law 573 = .ok (.iaload, 1) := by decide +kernel
theorem dL_law_574 : decode cL_law 574 = .ok (.invokevirtual 76, 3) := by decide +kernel
theorem dL_law_577 : decode cL_law 577 = .ok (.if_icmp .eq 335, 3) := by decide +kernel
theorem dL_law_580 : decode cL_law 580 = .ok (.iconst 0, 1) := by decide +kernel
theorem dL_law_581 : decode cL_law 581 = .ok (.ireturn, 1) := by decide +kernel
theorem dL_law_582 : decode cL_law 582 = .ok (.aload_n 1, 1) := by decide +kernel
theorem dL_law_583 : decode cL_law 583 = .ok (.aload_n 0, 1) := by decide +kernel
theorem dL_law_584 : decode cL_law 584 = .ok (.iload_n 3, 1) := by decide +kernel
theorem dL_law_585 : decode cL_law 585 = .ok (.iconst 1, 1) := by decide +kernel
theorem dL_law_586 : decode cL_law 586 = .ok (.iadd, 1) := by decide +kernel
theorem dL_law_587 : decode cL_law 587 = .ok (.iaload, 1) := by decide +kernel
theorem dL_law_588 : decode cL_law 588 = .ok (.invokevirtual 77, 3) := by decide +kernel
theorem dL_law_591 : decode cL_law 591 = .ok (.aload_n 2, 1) := by decide +kernel
theorem dL_law_592 : decode cL_law 592 = .ok (.aload_n 0, 1) := by decide +kernel
theorem dL_law_593 : decode cL_law 593 = .ok (.iload_n 3, 1) := by decide +kernel
theorem dL_law_594 : decode cL_law 594 = .ok (.iconst 1, 1) := by decide +kernel
theorem dL_law_595 : decode cL_law 595 = .ok (.iadd, 1) := by decide +kernel
theorem dL_law_596 : decode cL_law 596 = .ok (.iaload, 1) := by decide +kernel
theorem dL_law_597 : decode cL_law 597 = .ok (.invokevirtual 80, 3) := by decide +kernel
theorem dL_law_600 : decode cL_law 600 = .ok (.if_icmp .eq 312, 3) := by decide +kernel
theorem dL_law_603 : decode cL_law 603 = .ok (.iconst 0, 1) := by decide +kernel
theorem dL_law_604 : decode cL_law 604 = .ok (.ireturn, 1) := by decide +kernel
theorem dL_law_605 : decode cL_law 605 = .ok (.aload_n 1, 1) := by decide +kernel
theorem dL_law_606 : decode cL_law 606 = .ok (.aload_n 0, 1) := by decide +kernel
theorem dL_law_607 : decode cL_law 607 = .ok (.iload_n 3, 1) := by decide +kernel
theorem dL_law_608 : decode cL_law 608 = .ok (.iconst 1, 1) := by decide +kernel
theorem dL_law_609 : decode cL_law 609 = .ok (.iadd, 1) := by decide +kernel
theorem dL_law_610 : decode cL_law 610 = .ok (.iaload, 1) := by decide +kernel
theorem dL_law_611 : decode cL_law 611 = .ok (.aload_n 0, 1) := by decide +kernel
theorem dL_law_612 : decode cL_law 612 = .ok (.iload_n 3, 1) := by decide +kernel
theorem dL_law_613 : decode cL_law 613 = .ok (.iconst 2, 1) := by decide +kernel
theorem dL_law_614 : decode cL_law 614 = .ok (.iadd, 1) := by decide +kernel
theorem dL_law_615 : decode cL_law 615 = .ok (.iaload, 1) := by decide +kernel
theorem dL_law_616 : decode cL_law 616 = .ok (.aload_n 0, 1) := by decide +kernel
theorem dL_law_617 : decode cL_law 617 = .ok (.iload_n 3, 1) := by decide +kernel
theorem dL_law_618 : decode cL_law 618 = .ok (.iconst 3, 1) := by decide +kernel
theorem dL_law_619 : decode cL_law 619 = .ok (.iadd, 1) := by decide +kernel
theorem dL_law_620 : decode cL_law 620 = .ok (.iaload, 1) := by decide +kernel
theorem dL_law_621 : decode cL_law 621 = .ok (.invokevirtual 81, 3) := by decide +kernel
theorem dL_law_624 : decode cL_law 624 = .ok (.aload_n 2, 1) := by decide +kernel
theorem dL_law_625 : decode cL_law 625 = .ok (.aload_n 0, 1) := by decide +kernel
theorem dL_law_626 : decode cL_law 626 = .ok (.iload_n 3, 1) := by decide +kernel
theorem dL_law_627 : decode cL_law 627 = .ok (.iconst 1, 1) := by decide +kernel
theorem dL_law_628 : decode cL_law 628 = .ok (.iadd, 1) := by decide +kernel
theorem dL_law_629 : decode cL_law 629 = .ok (.iaload, 1) := by decide +kernel
theorem dL_law_630 : decode cL_law 630 = .ok (.aload_n 0, 1) := by decide +kernel
theorem dL_law_631 : decode cL_law 631 = .ok (.iload_n 3, 1) := by decide +kernel
theorem dL_law_632 : decode cL_law 632 = .ok (.iconst 2, 1) := by decide +kernel
theorem dL_law_633 : decode cL_law 633 = .ok (.iadd, 1) := by decide +kernel
theorem dL_law_634 : decode cL_law 634 = .ok (.iaload, 1) := by decide +kernel
theorem dL_law_635 : decode cL_law 635 = .ok (.aload_n 0, 1) := by decide +kernel
theorem dL_law_636 : decode cL_law 636 = .ok (.iload_n 3, 1) := by decide +kernel
theorem dL_law_637 : decode cL_law 637 = .ok (.iconst 3, 1) := by decide +kernel
theorem dL_law_638 : decode cL_law 638 = .ok (.iadd, 1) := by decide +kernel
theorem dL_law_639 : decode cL_law 639 = .ok (.iaload, 1) := by decide +kernel
theorem dL_law_640 : decode cL_law 640 = .ok (.invokevirtual 84, 3) := by decide +kernel
theorem dL_law_643 : decode cL_law 643 = .ok (.if_icmp .eq 269, 3) := by decide +kernel
theorem dL_law_646 : decode cL_law 646 = .ok (.iconst 0, 1) := by decide +kernel
theorem dL_law_647 : decode cL_law 647 = .ok (.ireturn, 1) := by decide +kernel
theorem dL_law_648 : decode cL_law 648 = .ok (.aload_n 1, 1) := by decide +kernel
theorem dL_law_649 : decode cL_law 649 = .ok (.aload_n 0, 1) := by decide +kernel
theorem dL_law_650 : decode cL_law 650 = .ok (.iload_n 3, 1) := by decide +kernel
theorem dL_law_651 : decode cL_law 651 = .ok (.iconst 1, 1) := by decide +kernel
theorem dL_law_652 : decode cL_law 652 = .ok (.iadd, 1) := by decide +kernel
theorem dL_law_653 : decode cL_law 653 = .ok (.iaload, 1) := by decide +kernel
theorem dL_law_654 : decode cL_law 654 = .ok (.aload_n 0, 1) := by decide +kernel
theorem dL_law_655 : decode cL_law 655 = .ok (.iload_n 3, 1) := by decide +kernel
theorem dL_law_656 : decode cL_law 656 = .ok (.iconst 2, 1) := by decide +kernel
theorem dL_law_657 : decode cL_law 657 = .ok (.iadd, 1) := by decide +kernel
theorem dL_law_658 : decode cL_law 658 = .ok (.iaload, 1) := by decide +kernel
theorem dL_law_659 : decode cL_law 659 = .ok (.invokevirtual 85, 3) := by decide +kernel
theorem dL_law_662 : decode cL_law 662 = .ok (.aload_n 2, 1) := by decide +kernel
theorem dL_law_663 : decode cL_law 663 = .ok (.aload_n 0, 1) := by decide +kernel
theorem dL_law_664 : decode cL_law 664 = .ok (.iload_n 3, 1) := by decide +kernel
theorem dL_law_665 : decode cL_law 665 = .ok (.iconst 1, 1) := by decide +kernel
theorem dL_law_666 : decode cL_law 666 = .ok (.iadd, 1) := by decide +kernel
theorem dL_law_667 : decode cL_law 667 = .ok (.iaload, 1) := by decide +kernel
theorem dL_law_668 : decode cL_law 668 = .ok (.aload_n 0, 1) := by decide +kernel
theorem dL_law_669 : decode cL_law 669 = .ok (.iload_n 3, 1) := by decide +kernel
theorem dL_law_670 : decode cL_law 670 = .ok (.iconst 2, 1) := by decide +kernel
theorem dL_law_671 : decode cL_law 671 = .ok (.iadd, 1) := by decide +kernel
theorem dL_law_672 : decode cL_law 672 = .ok (.iaload, 1) := by decide +kernel
theorem dL_law_673 : decode cL_law 673 = .ok (.invokevirtual 88, 3) := by decide +kernel
theorem dL_law_676 : decode cL_law 676 = .ok (.if_icmp .eq 236, 3) := by decide +kernel
theorem dL_law_679 : decode cL_law 679 = .ok (.iconst 0, 1) := by decide +kernel
theorem dL_law_680 : decode cL_law 680 = .ok (.ireturn, 1) := by decide +kernel
theorem dL_law_681 : decode cL_law 681 = .ok (.aload_n 1, 1) := by decide +kernel
theorem dL_law_682 : decode cL_law 682 = .ok (.aload_n 0, 1) := by decide +kernel
theorem dL_law_683 : decode cL_law 683 = .ok (.iload_n 3, 1) := by decide +kernel
theorem dL_law_684 : decode cL_law 684 = .ok (.iconst 1, 1) := by decide +kernel
theorem dL_law_685 : decode cL_law 685 = .ok (.iadd, 1) := by decide +kernel
theorem dL_law_686 : decode cL_law 686 = .ok (.iaload, 1) := by decide +kernel
theorem dL_law_687 : decode cL_law 687 = .ok (.aload_n 0, 1) := by decide +kernel
theorem dL_law_688 : decode cL_law 688 = .ok (.iload_n 3, 1) := by decide +kernel
theorem dL_law_689 : decode cL_law 689 = .ok (.iconst 2, 1) := by decide +kernel
theorem dL_law_690 : decode cL_law 690 = .ok (.iadd, 1) := by decide +kernel
theorem dL_law_691 : decode cL_law 691 = .ok (.iaload, 1) := by decide +kernel
theorem dL_law_692 : decode cL_law 692 = .ok (.aload_n 0, 1) := by decide +kernel
theorem dL_law_693 : decode cL_law 693 = .ok (.iload_n 3, 1) := by decide +kernel
theorem dL_law_694 : decode cL_law 694 = .ok (.iconst 3, 1) := by decide +kernel
theorem dL_law_695 : decode cL_law 695 = .ok (.iadd, 1) := by decide +kernel
theorem dL_law_696 : decode cL_law 696 = .ok (.iaload, 1) := by decide +kernel
theorem dL_law_697 : decode cL_law 697 = .ok (.aload_n 0, 1) := by decide +kernel
theorem dL_law_698 : decode cL_law 698 = .ok (.iload_n 3, 1) := by decide +kernel
theorem dL_law_699 : decode cL_law 699 = .ok (.iconst 4, 1) := by decide +kernel
theorem dL_law_700 : decode cL_law 700 = .ok (.iadd, 1) := by decide +kernel
theorem dL_law_701 : decode cL_law 701 = .ok (.iaload, 1) := by decide +kernel
theorem dL_law_702 : decode cL_law 702 = .ok (.invokevirtual 89, 3) := by decide +kernel
theorem dL_law_705 : decode cL_law 705 = .ok (.aload_n 2, 1) := by decide +kernel
theorem dL_law_706 : decode cL_law 706 = .ok (.aload_n 0, 1) := by decide +kernel
theorem dL_law_707 : decode cL_law 707 = .ok (.iload_n 3, 1) := by decide +kernel
theorem dL_law_708 : decode cL_law 708 = .ok (.iconst 1, 1) := by decide +kernel
theorem dL_law_709 : decode cL_law 709 = .ok (.iadd, 1) := by decide +kernel
theorem dL_law_710 : decode cL_law 710 = .ok (.iaload, 1) := by decide +kernel
theorem dL_law_711 : decode cL_law 711 = .ok (.aload_n 0, 1) := by decide +kernel
theorem dL_law_712 : decode cL_law 712 = .ok (.iload_n 3, 1) := by decide +kernel
theorem dL_law_713 : decode cL_law 713 = .ok (.iconst 2, 1) := by decide +kernel
theorem dL_law_714 : decode cL_law 714 = .ok (.iadd, 1) := by decide +kernel
theorem dL_law_715 : decode cL_law 715 = .ok (.iaload, 1) := by decide +kernel
theorem dL_law_716 : decode cL_law 716 = .ok (.aload_n 0, 1) := by decide +kernel
theorem dL_law_717 : decode cL_law 717 = .ok (.iload_n 3, 1) := by decide +kernel
theorem dL_law_718 : decode cL_law 718 = .ok (.iconst 3, 1) := by decide +kernel
theorem dL_law_719 : decode cL_law 719 = .ok (.iadd, 1) := by decide +kernel
theorem dL_law_720 : decode cL_law 720 = .ok (.iaload, 1) := by decide +kernel
theorem dL_law_721 : decode cL_law 721 = .ok (.aload_n 0, 1) := by decide +kernel
theorem dL_law_722 : decode cL_law 722 = .ok (.iload_n 3, 1) := by decide +kernel
theorem dL_law_723 : decode cL_law 723 = .ok (.iconst 4, 1) := by decide +kernel
theorem dL_law_724 : decode cL_law 724 = .ok (.iadd, 1) := by decide +kernel
theorem dL_law_725 : decode cL_law 725 = .ok (.iaload, 1) := by decide +kernel
theorem dL_law_726 : decode cL_law 726 = .ok (.invokevirtual 93, 3) := by decide +kernel
theorem dL_law_729 : decode cL_law 729 = .ok (.if_icmp .eq 183, 3) := by decide +kernel
theorem dL_law_732 : decode cL_law 732 = .ok (.iconst 0, 1) := by decide +kernel
theorem dL_law_733 : decode cL_law 733 = .ok (.ireturn, 1) := by decide +kernel
theorem dL_law_734 : decode cL_law 734 = .ok (.aload_n 1, 1) := by decide +kernel
theorem dL_law_735 : decode cL_law 735 = .ok (.aload_n 0, 1) := by decide +kernel
theorem dL_law_736 : decode cL_law 736 = .ok (.iload_n 3, 1) := by decide +kernel
theorem dL_law_737 : decode cL_law 737 = .ok (.iconst 1, 1) := by decide +kernel
theorem dL_law_738 : decode cL_law 738 = .ok (.iadd, 1) := by decide +kernel
theorem dL_law_739 : decode cL_law 739 = .ok (.iaload, 1) := by decide +kernel
theorem dL_law_740 : decode cL_law 740 = .ok (.aload_n 0, 1) := by decide +kernel
theorem dL_law_741 : decode cL_law 741 = .ok (.iload_n 3, 1) := by decide +kernel
theorem dL_law_742 : decode cL_law 742 = .ok (.iconst 2, 1) := by decide +kernel
theorem dL_law_743 : decode cL_law 743 = .ok (.iadd, 1) := by decide +kernel
theorem dL_law_744 : decode cL_law 744 = .ok (.iaload, 1) := by decide +kernel
theorem dL_law_745 : decode cL_law 745 = .ok (.aload_n 0, 1) := by decide +kernel
theorem dL_law_746 : decode cL_law 746 = .ok (.iload_n 3, 1) := by decide +kernel
theorem dL_law_747 : decode cL_law 747 = .ok (.iconst 3, 1) := by decide +kernel
theorem dL_law_748 : decode cL_law 748 = .ok (.iadd, 1) := by decide +kernel
theorem dL_law_749 : decode cL_law 749 = .ok (.iaload, 1) := by decide +kernel
theorem dL_law_750 : decode cL_law 750 = .ok (.aload_n 0, 1) := by decide +kernel
theorem dL_law_751 : decode cL_law 751 = .ok (.iload_n 3, 1) := by decide +kernel
theorem dL_law_752 : decode cL_law 752 = .ok (.iconst 4, 1) := by decide +kernel
theorem dL_law_753 : decode cL_law 753 = .ok (.iadd, 1) := by decide +kernel
theorem dL_law_754 : decode cL_law 754 = .ok (.iaload, 1) := by decide +kernel
theorem dL_law_755 : decode cL_law 755 = .ok (.aload_n 0, 1) := by decide +kernel
theorem dL_law_756 : decode cL_law 756 = .ok (.iload_n 3, 1) := by decide +kernel
theorem dL_law_757 : decode cL_law 757 = .ok (.iconst 5, 1) := by decide +kernel
theorem dL_law_758 : decode cL_law 758 = .ok (.iadd, 1) := by decide +kernel
theorem dL_law_759 : decode cL_law 759 = .ok (.iaload, 1) := by decide +kernel
theorem dL_law_760 : decode cL_law 760 = .ok (.invokevirtual 94, 3) := by decide +kernel
theorem dL_law_763 : decode cL_law 763 = .ok (.aload_n 2, 1) := by decide +kernel
theorem dL_law_764 : decode cL_law 764 = .ok (.aload_n 0, 1) := by decide +kernel
theorem dL_law_765 : decode cL_law 765 = .ok (.iload_n 3, 1) := by decide +kernel
theorem dL_law_766 : decode cL_law 766 = .ok (.iconst 1, 1) := by decide +kernel
theorem dL_law_767 : decode cL_law 767 = .ok (.iadd, 1) := by decide +kernel
theorem dL_law_768 : decode cL_law 768 = .ok (.iaload, 1) := by decide +kernel
theorem dL_law_769 : decode cL_law 769 = .ok (.aload_n 0, 1) := by decide +kernel
theorem dL_law_770 : decode cL_law 770 = .ok (.iload_n 3, 1) := by decide +kernel
theorem dL_law_771 : decode cL_law 771 = .ok (.iconst 2, 1) := by decide +kernel
theorem dL_law_772 : decode cL_law 772 = .ok (.iadd, 1) := by decide +kernel
theorem dL_law_773 : decode cL_law 773 = .ok (.iaload, 1) := by decide +kernel
theorem dL_law_774 : decode cL_law 774 = .ok (.aload_n 0, 1) := by decide +kernel
theorem dL_law_775 : decode cL_law 775 = .ok (.iload_n 3, 1) := by decide +kernel
theorem dL_law_776 : decode cL_law 776 = .ok (.iconst 3, 1) := by decide +kernel
theorem dL_law_777 : decode cL_law 777 = .ok (.iadd, 1) := by decide +kernel
theorem dL_law_778 : decode cL_law 778 = .ok (.iaload, 1) := by decide +kernel
theorem dL_law_779 : decode cL_law 779 = .ok (.aload_n 0, 1) := by decide +kernel
theorem dL_law_780 : decode cL_law 780 = .ok (.iload_n 3, 1) := by decide +kernel
theorem dL_law_781 : decode cL_law 781 = .ok (.iconst 4, 1) := by decide +kernel
theorem dL_law_782 : decode cL_law 782 = .ok (.iadd, 1) := by decide +kernel
theorem dL_law_783 : decode cL_law 783 = .ok (.iaload, 1) := by decide +kernel
theorem dL_law_784 : decode cL_law 784 = .ok (.aload_n 0, 1) := by decide +kernel
theorem dL_law_785 : decode cL_law 785 = .ok (.iload_n 3, 1) := by decide +kernel
theorem dL_law_786 : decode cL_law 786 = .ok (.iconst 5, 1) := by decide +kernel
theorem dL_law_787 : decode cL_law 787 = .ok (.iadd, 1) := by decide +kernel
theorem dL_law_788 : decode cL_law 788 = .ok (.iaload, 1) := by decide +kernel
theorem dL_law_789 : decode cL_law 789 = .ok (.invokevirtual 98, 3) := by decide +kernel
theorem dL_law_792 : decode cL_law 792 = .ok (.if_icmp .eq 120, 3) := by decide +kernel
theorem dL_law_795 : decode cL_law 795 = .ok (.iconst 0, 1) := by decide +kernel
theorem dL_law_796 : decode cL_law 796 = .ok (.ireturn, 1) := by decide +kernel
theorem dL_law_797 : decode cL_law 797 = .ok (.aload_n 1, 1) := by decide +kernel
theorem dL_law_798 : decode cL_law 798 = .ok (.aload_n 0, 1) := by decide +kernel
theorem dL_law_799 : decode cL_law 799 = .ok (.iload_n 3, 1) := by decide +kernel
theorem dL_law_800 : decode cL_law 800 = .ok (.iconst 1, 1) := by decide +kernel
theorem dL_law_801 : decode cL_law 801 = .ok (.iadd, 1) := by decide +kernel
theorem dL_law_802 : decode cL_law 802 = .ok (.iaload, 1) := by decide +kernel
theorem dL_law_803 : decode cL_law 803 = .ok (.invokevirtual 99, 3) := by decide +kernel
theorem dL_law_806 : decode cL_law 806 = .ok (.aload_n 2, 1) := by decide +kernel
theorem dL_law_807 : decode cL_law 807 = .ok (.aload_n 0, 1) := by decide +kernel
theorem dL_law_808 : decode cL_law 808 = .ok (.iload_n 3, 1) := by decide +kernel
theorem dL_law_809 : decode cL_law 809 = .ok (.iconst 1, 1) := by decide +kernel
theorem dL_law_810 : decode cL_law 810 = .ok (.iadd, 1) := by decide +kernel
theorem dL_law_811 : decode cL_law 811 = .ok (.iaload, 1) := by decide +kernel
theorem dL_law_812 : decode cL_law 812 = .ok (.invokevirtual 102, 3) := by decide +kernel
theorem dL_law_815 : decode cL_law 815 = .ok (.if_icmp .eq 97, 3) := by decide +kernel
theorem dL_law_818 : decode cL_law 818 = .ok (.iconst 0, 1) := by decide +kernel
theorem dL_law_819 : decode cL_law 819 = .ok (.ireturn, 1) := by decide +kernel
theorem dL_law_820 : decode cL_law 820 = .ok (.aload_n 1, 1) := by decide +kernel
theorem dL_law_821 : decode cL_law 821 = .ok (.aload_n 0, 1) := by decide +kernel
theorem dL_law_822 : decode cL_law 822 = .ok (.iload_n 3, 1) := by decide +kernel
theorem dL_law_823 : decode cL_law 823 = .ok (.iconst 1, 1) := by decide +kernel
theorem dL_law_824 : decode cL_law 824 = .ok (.iadd, 1) := by decide +kernel
theorem dL_law_825 : decode cL_law 825 = .ok (.iaload, 1) := by decide +kernel
theorem dL_law_826 : decode cL_law 826 = .ok (.aload_n 0, 1) := by decide +kernel
theorem dL_law_827 : decode cL_law 827 = .ok (.iload_n 3, 1) := by decide +kernel
theorem dL_law_828 : decode cL_law 828 = .ok (.iconst 2, 1) := by decide +kernel
theorem dL_law_829 : decode cL_law 829 = .ok (.iadd, 1) := by decide +kernel
theorem dL_law_830 : decode cL_law 830 = .ok (.iaload, 1) := by decide +kernel
theorem dL_law_831 : decode cL_law 831 = .ok (.aload_n 0, 1) := by decide +kernel
theorem dL_law_832 : decode cL_law 832 = .ok (.iload_n 3, 1) := by decide +kernel
theorem dL_law_833 : decode cL_law 833 = .ok (.iconst 3, 1) := by decide +kernel
theorem dL_law_834 : decode cL_law 834 = .ok (.iadd, 1) := by decide +kernel
theorem dL_law_835 : decode cL_law 835 = .ok (.iaload, 1) := by decide +kernel
theorem dL_law_836 : decode cL_law 836 = .ok (.invokevirtual 103, 3) := by decide +kernel
theorem dL_law_839 : decode cL_law 839 = .ok (.aload_n 2, 1) := by decide +kernel
theorem dL_law_840 : decode cL_law 840 = .ok (.aload_n 0, 1) := by decide +kernel
theorem dL_law_841 : decode cL_law 841 = .ok (.iload_n 3, 1) := by decide +kernel
theorem dL_law_842 : decode cL_law 842 = .ok (.iconst 1, 1) := by decide +kernel
theorem dL_law_843 : decode cL_law 843 = .ok (.iadd, 1) := by decide +kernel
theorem dL_law_844 : decode cL_law 844 = .ok (.iaload, 1) := by decide +kernel
theorem dL_law_845 : decode cL_law 845 = .ok (.aload_n 0, 1) := by decide +kernel
theorem dL_law_846 : decode cL_law 846 = .ok (.iload_n 3, 1) := by decide +kernel
theorem dL_law_847 : decode cL_law 847 = .ok (.iconst 2, 1) := by decide +kernel
theorem dL_law_848 : decode cL_law 848 = .ok (.iadd, 1) := by decide +kernel
theorem dL_law_849 : decode cL_law 849 = .ok (.iaload, 1) := by decide +kernel
theorem dL_law_850 : decode cL_law 850 = .ok (.aload_n 0, 1) := by decide +kernel
theorem dL_law_851 : decode cL_law 851 = .ok (.iload_n 3, 1) := by decide +kernel
theorem dL_law_852 : decode cL_law 852 = .ok (.iconst 3, 1) := by decide +kernel
theorem dL_law_853 : decode cL_law 853 = .ok (.iadd, 1) := by decide +kernel
theorem dL_law_854 : decode cL_law 854 = .ok (.iaload, 1) := by decide +kernel
theorem dL_law_855 : decode cL_law 855 = .ok (.invokevirtual 106, 3) := by decide +kernel
theorem dL_law_858 : decode cL_law 858 = .ok (.if_icmp .eq 54, 3) := by decide +kernel
theorem dL_law_861 : decode cL_law 861 = .ok (.iconst 0, 1) := by decide +kernel
theorem dL_law_862 : decode cL_law 862 = .ok (.ireturn, 1) := by decide +kernel
theorem dL_law_863 : decode cL_law 863 = .ok (.aload_n 1, 1) := by decide +kernel
theorem dL_law_864 : decode cL_law 864 = .ok (.invokevirtual 107, 3) := by decide +kernel
theorem dL_law_867 : decode cL_law 867 = .ok (.aload_n 2, 1) := by decide +kernel
theorem dL_law_868 : decode cL_law 868 = .ok (.invokevirtual 110, 3) := by decide +kernel
theorem dL_law_871 : decode cL_law 871 = .ok (.if_icmp .eq 41, 3) := by decide +kernel
theorem dL_law_874 : decode cL_law 874 = .ok (.iconst 0, 1) := by decide +kernel
theorem dL_law_875 : decode cL_law 875 = .ok (.ireturn, 1) := by decide +kernel
theorem dL_law_876 : decode cL_law 876 = .ok (.aload_n 1, 1) := by decide +kernel
theorem dL_law_877 : decode cL_law 877 = .ok (.invokevirtual 111, 3) := by decide +kernel
theorem dL_law_880 : decode cL_law 880 = .ok (.aload_n 2, 1) := by decide +kernel
theorem dL_law_881 : decode cL_law 881 = .ok (.invokevirtual 114, 3) := by decide +kernel
theorem dL_law_884 : decode cL_law 884 = .ok (.if_icmp .eq 28, 3) := by decide +kernel
theorem dL_law_887 : decode cL_law 887 = .ok (.iconst 0, 1) := by decide +kernel
theorem dL_law_888 : decode cL_law 888 = .ok (.ireturn, 1) := by decide +kernel
theorem dL_law_889 : decode cL_law 889 = .ok (.aload_n 1, 1) := by decide +kernel
theorem dL_law_890 : decode cL_law 890 = .ok (.aload_n 0, 1) := by decide +kernel
theorem dL_law_891 : decode cL_law 891 = .ok (.iload_n 3, 1) := by decide +kernel
theorem dL_law_892 : decode cL_law 892 = .ok (.iconst 1, 1) := by decide +kernel
theorem dL_law_893 : decode cL_law 893 = .ok (.iadd, 1) := by decide +kernel
theorem dL_law_894 : decode cL_law 894 = .ok (.iaload, 1) := by decide +kernel
theorem dL_law_895 : decode cL_law 895 = .ok (.invokevirtual 115, 3) := by decide +kernel
theorem dL_law_898 : decode cL_law 898 = .ok (.aload_n 2, 1) := by decide +kernel
theorem dL_law_899 : decode cL_law 899 = .ok (.aload_n 0, 1) := by decide +kernel
theorem dL_law_900 : decode cL_law 900 = .ok (.iload_n 3, 1) := by decide +kernel
theorem dL_law_901 : decode cL_law 901 = .ok (.iconst 1, 1) := by decide +kernel
theorem dL_law_902 : decode cL_law 902 = .ok (.iadd, 1) := by decide +kernel
theorem dL_law_903 : decode cL_law 903 = .ok (.iaload, 1) := by decide +kernel
theorem dL_law_904 : decode cL_law 904 = .ok (.invokevirtual 118, 3) := by decide +kernel
theorem dL_law_907 : decode cL_law 907 = .ok (.if_icmp .eq 5, 3) := by decide +kernel
theorem dL_law_910 : decode cL_law 910 = .ok (.iconst 0, 1) := by decide +kernel
theorem dL_law_911 : decode cL_law 911 = .ok (.ireturn, 1) := by decide +kernel
theorem dL_law_912 : decode cL_law 912 = .ok (.iinc 3 6, 3) := by decide +kernel
theorem dL_law_915 : decode cL_law 915 = .ok (.goto (-897), 3) := by decide +kernel
theorem dL_law_918 : decode cL_law 918 = .ok (.iconst 1, 1) := by decide +kernel
theorem dL_law_919 : decode cL_law 919 = .ok (.ireturn, 1) := by decide +kernel
end
section
/-! worlds in blocks; contracts whose answer and world are told; rows for fields, arrays and calls over blocks -/
abbrev GD : Type := va_G × ClassId × ClassId × ClassId
abbrev OV : Type := (Nat → Nat → Int32) × (Nat → Int32)
def setA (v : OV) (t : Nat) (f : Nat → Int32) : OV := (fun u => if u = t then f else v.1 u, v.2)
def setI (v : OV) (t : Nat) (x : Int32) : OV := (v.1, fun u => if u = t then x else v.2 u)
def nW : List Cond := [
  .fieldLinkNest RX6 77 "DoorsThatRemember$Text" "length" "I" "DoorsThatRemember",
  .fieldLinkNest RX6 116 "DoorsThatRemember$House" "oilLeft" "[I" "DoorsThatRemember",
  .fieldLinkNest RX6 125 "DoorsThatRemember$House" "place" "[I" "DoorsThatRemember",
  .fieldLinkNest RX6 243 "DoorsThatRemember$House" "minutes" "I" "DoorsThatRemember",
  .fieldLinkNest RX6 160 "DoorsThatRemember$House" "nights" "I" "DoorsThatRemember",
  .fieldLinkNest RX6 170 "DoorsThatRemember$Past" "size" "I" "DoorsThatRemember",
  .fieldLinkNest RX5 50 "DoorsThatRemember$Plan" "sideA" "[I" "DoorsThatRemember",
  .fieldLinkNest RX6 102 "DoorsThatRemember$Plan" "sideA" "[I" "DoorsThatRemember",
  .fieldLinkNest RX5 57 "DoorsThatRemember$Plan" "sideB" "[I" "DoorsThatRemember",
  .fieldLinkNest RX6 110 "DoorsThatRemember$Plan" "sideB" "[I" "DoorsThatRemember",
  .fieldLinkNest RX6 113 "DoorsThatRemember$Plan" "passTo" "[I" "DoorsThatRemember",
  .fieldLinkNest RX0 90 "DoorsThatRemember$Plan" "passTo" "[I" "DoorsThatRemember",
  .fieldLinkNest RX6 119 "DoorsThatRemember$Plan" "draught" "[I" "DoorsThatRemember",
  .fieldLinkNest RX0 102 "DoorsThatRemember$Plan" "draught" "[I" "DoorsThatRemember",
  .fieldLinkNest RX0 33 "DoorsThatRemember$Plan" "home" "[I" "DoorsThatRemember",
  .fieldLinkNest RX6 128 "DoorsThatRemember$Plan" "temper" "[I" "DoorsThatRemember",
  .fieldLinkNest RX3 26 "DoorsThatRemember$Plan" "goal" "[I" "DoorsThatRemember",
  .fieldLinkNest RX6 131 "DoorsThatRemember$Plan" "goal" "[I" "DoorsThatRemember",
  .fieldLinkNest RX0 24 "DoorsThatRemember$Plan" "firstGrudges" "[I" "DoorsThatRemember",
  .fieldLinkNest RX3 22 "DoorsThatRemember$Plan" "roomCount" "I" "DoorsThatRemember",
  .fieldLinkNest RX5 43 "DoorsThatRemember$Plan" "roomCount" "I" "DoorsThatRemember",
  .fieldLinkNest RX6 249 "DoorsThatRemember$Plan" "roomCount" "I" "DoorsThatRemember",
  .fieldLinkNest RX5 18 "DoorsThatRemember$Plan" "doorCount" "I" "DoorsThatRemember",
  .fieldLinkNest RX6 95 "DoorsThatRemember$Plan" "doorCount" "I" "DoorsThatRemember",
  .fieldLinkNest RX0 87 "DoorsThatRemember$Plan" "doorCount" "I" "DoorsThatRemember",
  .fieldLinkNest RX3 15 "DoorsThatRemember$Plan" "lodgerCount" "I" "DoorsThatRemember",
  .fieldLinkNest RX0 77 "DoorsThatRemember$Plan" "lodgerCount" "I" "DoorsThatRemember",
  .fieldLinkNest RX6 252 "DoorsThatRemember$Plan" "lodgerCount" "I" "DoorsThatRemember",
  .fieldLinkNest RX0 93 "DoorsThatRemember$Plan" "tenths" "I" "DoorsThatRemember",
  .fieldLinkNest RX0 96 "DoorsThatRemember$Plan" "fade" "I" "DoorsThatRemember",
  .fieldLinkNest RX6 149 "DoorsThatRemember$Plan" "oilLasts" "I" "DoorsThatRemember",
  .methodLinkNest RX6 9 yX4_init "DoorsThatRemember",
  .methodLinkNest RX6 18 yX0_init "DoorsThatRemember",
  .methodLinkNest RX1 21 yX0_init "DoorsThatRemember",
  .methodLinkNest RX6 40 yX5_init "DoorsThatRemember",
  .methodLinkNest RX6 47 yX3_init "DoorsThatRemember",
  .methodLinkNest RX6 54 yX2_init "DoorsThatRemember",
  .methodLinkNest RX2 62 yX6_put "DoorsThatRemember",
  .methodLinkNest RX0 29 yX6_copy "DoorsThatRemember",
  .methodLinkNest RX0 36 yX6_fill "DoorsThatRemember",
  .methodLinkNest RX4 22 yX6_put "DoorsThatRemember",
  .methodLinkNest RX2 52 yX6_fill "DoorsThatRemember",
  .methodLinkNest RX4 56 yX6_at "DoorsThatRemember",
  .methodLinkNest RX4 60 yX6_within "DoorsThatRemember",
  .methodLinkNest RX2 66 yX6_at "DoorsThatRemember",
  .methodLinkNest RX2 97 yX6_within "DoorsThatRemember",
  .methodLinkNest RX0 47 yX6_at "DoorsThatRemember",
  .methodLinkNest RX0 51 yX6_put "DoorsThatRemember",
  .methodLinkNest RX2 107 yX6_grown "DoorsThatRemember",
  .methodLinkNest RX2 111 yX6_worn "DoorsThatRemember",
  .methodLinkNest RX0 99 yX6_worn "DoorsThatRemember",
  .methodLinkNest RX0 105 yX6_grown "DoorsThatRemember",
  .methodLinkNest RX5 24 yX6_holds "DoorsThatRemember",
  .methodLinkNest RX5 34 yX6_put "DoorsThatRemember",
  .methodLinkNest RX5 39 yX6_fill "DoorsThatRemember",
  .methodLinkNest RX5 53 yX6_at "DoorsThatRemember",
  .methodLinkNest RX3 29 yX6_at "DoorsThatRemember",
  .methodLinkNest RX3 43 yX6_put "DoorsThatRemember",
  .methodLinkNest RX3 51 yX6_holds "DoorsThatRemember",
  .methodLinkNest RX2 114 yX6_holds "DoorsThatRemember"]
def nOk : Cond → Bool := fun w => match w with
  | .fieldLinkNest _ _ _ _ _ _ => true
  | .methodLinkNest _ _ _ _ => true
  | _ => false
theorem nW_ok : ∀ w ∈ nW, nOk w = true := by decide +kernel
def CX (G : GD) (U : State) : Prop := va_K G.1 vwCl [(G.2.1, .int), (G.2.2.1, .byte), (G.2.2.2, .object "DoorsThatRemember$House")] U ∧ ∀ w ∈ nW, va_Nw w U
theorem CX.warm {G : GD} {s U : State} (hW : s.WarmedH U.vm) (h : CX G s) : CX G U := by
  refine ⟨va_K.moved hW.alike h.1, fun w hw => ?_⟩
  have h1 := nW_ok w hw
  have h2 := h.2 w hw
  cases w <;> first | exact va_Nw.warmF hW h2 | exact va_Nw.warmM hW h2 | (simp [nOk] at h1)
theorem CX.calling {G : GD} {U : State} {g : JFrame} {mk : MethodId} {a : Array Value} (h : CX G U) : CX G (U.calling g mk a) := by
  refine ⟨va_K.moved (u := U) (U := U.calling g mk a) (Vm.Alike.refl U.vm) h.1, fun w hw => ?_⟩
  have h1 := nW_ok w hw
  have h2 := h.2 w hw
  refine va_Nw.same ?_ (rfl : U.vm = (U.calling g mk a).vm) h2
  cases w <;> first | rfl | (simp [nOk] at h1)
theorem bl_at : ∀ (bs : List va_W) (i j : Nat) (b : va_W) (c : Nat × va_E), bs[i]? = some b → b[j]? = some c → ∃ q, bs.flatten[q]? = some c ∧ ∀ c', bs.flatten.set q c' = (bs.set i (b.set j c')).flatten
  | [], i, j, b, c, h, _ => by simp at h
  | b0 :: bs, 0, j, b, c, h, hj => by
    simp only [List.getElem?_cons_zero, Option.some.injEq] at h
    subst h
    have hl : j < b0.length := (List.getElem?_eq_some_iff.mp hj).1
    refine ⟨j, ?_, fun c' => ?_⟩
    · rw [List.flatten_cons, List.getElem?_append_left hl]; exact hj
    · rw [List.flatten_cons, List.set_append_left _ _ hl]; rfl
  | b0 :: bs, i + 1, j, b, c, h, hj => by
    obtain ⟨q, h1, h2⟩ := bl_at bs i j b c (by simpa using h) hj
    refine ⟨b0.length + q, ?_, fun c' => ?_⟩
    · rw [List.flatten_cons, List.getElem?_append_right (by omega), Nat.add_sub_cancel_left]; exact h1
    · rw [List.flatten_cons, List.set_append_right _ _ (by omega), Nat.add_sub_cancel_left, h2]; rfl
def updB : List va_W → List Nat → List va_W → List va_W
  | bs, i :: is, b :: bc => updB (bs.set i b) is bc
  | bs, _, _ => bs
/-- the same addresses, block by block -/
def sameAd : List va_W → List va_W → Prop
  | [], [] => True
  | b :: bs, b' :: bs' => (b'.map Prod.fst).Perm (b.map Prod.fst) ∧ sameAd bs bs'
  | _, _ => False
theorem sameAd_rf : ∀ {bs bs' : List va_W}, bs'.map (fun b => b.map Prod.fst) = bs.map (fun b => b.map Prod.fst) → sameAd bs bs'
  | [], [], _ => trivial
  | [], _ :: _, h => by simp at h
  | _ :: _, [], h => by simp at h
  | b :: bs, b' :: bs', h => by
    simp only [List.map_cons, List.cons.injEq] at h
    exact ⟨by rw [h.1], sameAd_rf h.2⟩
def AA (ws : va_W) : Nat → Prop := fun q => q ∈ ws.map Prod.fst
theorem D_iff {A : Nat → Prop} {ws : va_W} : va_D A ws ↔ (ws.map Prod.fst).Nodup ∧ ∀ q ∈ ws.map Prod.fst, A q := by
  constructor
  · intro h
    refine ⟨?_, fun q hq => ?_⟩
    · rw [List.nodup_iff_getElem?_ne_getElem?]
      intro i j hij hj he
      simp only [List.length_map] at hj
      rw [List.getElem?_map, List.getElem?_map] at he
      have hi : i < ws.length := by omega
      rw [List.getElem?_eq_getElem hi, List.getElem?_eq_getElem hj] at he
      simp only [Option.map_some, Option.some.injEq] at he
      have := h.1 i j _ _ (List.getElem?_eq_getElem hi) (List.getElem?_eq_getElem hj) he
      omega
    · obtain ⟨c, hc, rfl⟩ := List.mem_map.mp hq
      obtain ⟨k, hk⟩ := List.getElem?_of_mem hc
      exact h.2 k c hk
  · intro h
    refine ⟨fun i j p q hi hj he => ?_, fun k q hk => h.2 _ (List.mem_map.mpr ⟨q, List.mem_of_getElem? hk, rfl⟩)⟩
    have h1 : (ws.map Prod.fst)[i]? = some p.1 := by rw [List.getElem?_map, hi]; rfl
    have h2 : (ws.map Prod.fst)[j]? = some p.1 := by rw [List.getElem?_map, hj, he]; rfl
    have hi' : i < (ws.map Prod.fst).length := (List.getElem?_eq_some_iff.mp h1).1
    exact List.getElem?_inj hi' h.1 (h1.trans h2.symm)
theorem D_perm {A : Nat → Prop} {ws ws' : va_W} (h : va_D A ws) (hp : (ws'.map Prod.fst).Perm (ws.map Prod.fst)) : va_D A ws' := by
  rw [D_iff] at h ⊢
  exact ⟨hp.nodup_iff.mpr h.1, fun q hq => h.2 q (hp.mem_iff.mp hq)⟩
theorem P_iff {D : va_G} {cl : List vw_C} {ws : va_W} {H : Heap} : va_P D cl ws H ↔ ∀ q ∈ ws, va_at D cl q H := by
  constructor
  · intro h q hq
    obtain ⟨k, hk⟩ := List.getElem?_of_mem hq
    exact h k q hk
  · intro h k q hk
    exact h q (List.mem_of_getElem? hk)
theorem set_perm : ∀ {bs : List va_W} {i : Nat} {b b' : va_W}, bs[i]? = some b → (b'.map Prod.fst).Perm (b.map Prod.fst) → ((bs.set i b').flatten.map Prod.fst).Perm (bs.flatten.map Prod.fst)
  | [], i, b, b', h, _ => by simp at h
  | b0 :: bs, 0, b, b', h, hp => by
    simp only [List.getElem?_cons_zero, Option.some.injEq] at h
    subst h
    simp only [List.set_cons_zero, List.flatten_cons, List.map_append]
    exact hp.append_right _
  | b0 :: bs, i + 1, b, b', h, hp => by
    simp only [List.set_cons_succ, List.flatten_cons, List.map_append]
    exact (set_perm (by simpa using h) hp).append_left _
theorem updB_perm : ∀ {is : List Nat} {bs bc bc' : List va_W}, va_nd is = true → is.map (fun i => bs[i]?) = bc.map some → sameAd bc bc' → ((updB bs is bc').flatten.map Prod.fst).Perm (bs.flatten.map Prod.fst)
  | [], bs, bc, bc', _, _, _ => by cases bc' <;> exact List.Perm.refl _
  | i :: is, bs, [], bc', _, h, _ => by simp at h
  | i :: is, bs, b :: bc, [], _, _, h => by exact absurd h (by simp [sameAd])
  | i :: is, bs, b :: bc, b' :: bc', hn, h, hs => by
    simp only [List.map_cons, List.cons.injEq] at h
    simp only [va_nd, Bool.and_eq_true, decide_eq_true_eq] at hn
    have h2 : is.map (fun k => (bs.set i b')[k]?) = bc.map some := by
      rw [← h.2]
      refine List.map_congr_left fun k hk => ?_
      rw [List.getElem?_set_ne (fun e => hn.1 (e ▸ hk))]
    exact (updB_perm (bs := bs.set i b') hn.2 h2 hs.2).trans (set_perm h.1 hs.1)
theorem updB_mem : ∀ {is : List Nat} {bs bc : List va_W} {c : Nat × va_E}, is.length ≤ bc.length → c ∈ (updB bs is bc).flatten → c ∈ bc.flatten ∨ ∃ k b, k ∉ is ∧ bs[k]? = some b ∧ c ∈ b
  | [], bs, bc, c, _, h => by
    have h1 : c ∈ bs.flatten := by cases bc <;> exact h
    obtain ⟨b, hb, hc⟩ := List.mem_flatten.mp h1
    obtain ⟨k, hk⟩ := List.getElem?_of_mem hb
    exact Or.inr ⟨k, b, by simp, hk, hc⟩
  | i :: is, bs, [], c, hl, h => by simp at hl
  | i :: is, bs, b0 :: bc, c, hl, h => by
    rcases updB_mem (is := is) (bs := bs.set i b0) (bc := bc) (by simpa using hl) h with h | ⟨k, b, h1, h2, h3⟩
    · exact Or.inl (by rw [List.flatten_cons]; exact List.mem_append_right _ h)
    · by_cases hk : k = i
      · subst hk
        by_cases hl : k < bs.length
        · rw [List.getElem?_set_self hl] at h2
          cases h2
          exact Or.inl (by rw [List.flatten_cons]; exact List.mem_append_left _ h3)
        · rw [List.set_eq_of_length_le (by omega)] at h2
          exact absurd (List.getElem?_eq_some_iff.mp h2).1 hl
      · rw [List.getElem?_set_ne (Ne.symm hk)] at h2
        exact Or.inr ⟨k, b, by simp [hk, h1], h2, h3⟩
theorem sameAd_len : ∀ {bs bs' : List va_W}, sameAd bs bs' → bs'.length = bs.length
  | [], [], _ => rfl
  | [], _ :: _, h => absurd h (by simp [sameAd])
  | _ :: _, [], h => absurd h (by simp [sameAd])
  | _ :: _, _ :: _, h => by simp [sameAd_len h.2]
theorem at_idx {bs bc : List va_W} {is : List Nat} (h : is.map (fun i => bs[i]?) = bc.map some) {b : va_W} (hb : b ∈ bc) : ∃ i ∈ is, bs[i]? = some b := by
  have h1 : some b ∈ bc.map some := List.mem_map.mpr ⟨b, hb, rfl⟩
  rw [← h] at h1
  obtain ⟨i, hi, he⟩ := List.mem_map.mp h1
  exact ⟨i, hi, he⟩
theorem sub_mem {bs bc : List va_W} {is : List Nat} (h : is.map (fun i => bs[i]?) = bc.map some) {c : Nat × va_E} (hc : c ∈ bc.flatten) : c ∈ bs.flatten := by
  obtain ⟨b, hb, hc⟩ := List.mem_flatten.mp hc
  obtain ⟨i, -, hi⟩ := at_idx h hb
  exact List.mem_flatten.mpr ⟨b, List.mem_of_getElem? hi, hc⟩
/-- cells of two blocks at two places have different addresses -/
theorem nd_apart : ∀ {bs : List va_W} {i k : Nat} {b b' : va_W} {c c' : Nat × va_E}, (bs.flatten.map Prod.fst).Nodup → i ≠ k → bs[i]? = some b → bs[k]? = some b' → c ∈ b → c' ∈ b' → c.1 ≠ c'.1
  | [], i, k, b, b', c, c', _, _, h, _, _, _ => by simp at h
  | b0 :: bs, 0, 0, b, b', c, c', _, h, _, _, _, _ => absurd rfl h
  | b0 :: bs, 0, k + 1, b, b', c, c', hn, _, h1, h2, h3, h4 => by
    simp only [List.getElem?_cons_zero, Option.some.injEq] at h1
    subst h1
    simp only [List.getElem?_cons_succ] at h2
    rw [List.flatten_cons, List.map_append, List.nodup_append] at hn
    exact hn.2.2 _ (List.mem_map.mpr ⟨c, h3, rfl⟩) _ (List.mem_map.mpr ⟨c', List.mem_flatten.mpr ⟨b', List.mem_of_getElem? h2, h4⟩, rfl⟩)
  | b0 :: bs, i + 1, 0, b, b', c, c', hn, _, h1, h2, h3, h4 => by
    simp only [List.getElem?_cons_zero, Option.some.injEq] at h2
    subst h2
    simp only [List.getElem?_cons_succ] at h1
    rw [List.flatten_cons, List.map_append, List.nodup_append] at hn
    exact fun e => hn.2.2 _ (List.mem_map.mpr ⟨c', h4, rfl⟩) _ (List.mem_map.mpr ⟨c, List.mem_flatten.mpr ⟨b, List.mem_of_getElem? h1, h3⟩, rfl⟩) e.symm
  | b0 :: bs, i + 1, k + 1, b, b', c, c', hn, hik, h1, h2, h3, h4 => by
    rw [List.flatten_cons, List.map_append, List.nodup_append] at hn
    exact nd_apart hn.2.1 (fun e => hik (by rw [e])) (by simpa using h1) (by simpa using h2) h3 h4
/-- the world of a call, out of the caller's -/
theorem D_cut {A : Nat → Prop} {bs bc : List va_W} {is : List Nat} (hD : va_D A bs.flatten) (hn : va_nd is = true) (h : is.map (fun i => bs[i]?) = bc.map some) : va_D (fun _ => True) bc.flatten := by
  rw [D_iff] at hD ⊢
  refine ⟨?_, fun _ _ => trivial⟩
  replace hD := hD.1
  induction is generalizing bc with
  | nil =>
    cases bc with
    | nil => simp
    | cons b bc => simp at h
  | cons i is ih =>
    cases bc with
    | nil => simp at h
    | cons b bc =>
      simp only [List.map_cons, List.cons.injEq] at h
      simp only [va_nd, Bool.and_eq_true, decide_eq_true_eq] at hn
      rw [List.flatten_cons, List.map_append, List.nodup_append]
      refine ⟨?_, ih hn.2 h.2, fun x hx y hy => ?_⟩
      · have : (b.map Prod.fst).Sublist (bs.flatten.map Prod.fst) := (List.sublist_flatten_of_mem (List.mem_of_getElem? h.1)).map _
        exact this.nodup hD
      · obtain ⟨c, hc, rfl⟩ := List.mem_map.mp hx
        obtain ⟨c', hc', rfl⟩ := List.mem_map.mp hy
        obtain ⟨b', hb', hc'⟩ := List.mem_flatten.mp hc'
        obtain ⟨k, hk, hbk⟩ := at_idx h.2 hb'
        exact nd_apart hD (fun e => hn.1 (e ▸ hk)) h.1 hbk hc hc'
abbrev kPp (G : GD) (bs : List va_W) (av : List Value) : Array Value → State → Prop := va_Pc av (fun U => va_P G.1 vwCl bs.flatten U.heap ∧ CX G U)
abbrev kQp (r : Option Value) : Array Value → State → Outcome → State → Prop := fun _ st o t => o = .returned r ∧ t.heap = st.heap
abbrev kPs (G : GD) (bs : List va_W) (av : List Value) : Array Value → State → Prop := va_Pc av (fun U => va_P G.1 vwCl bs.flatten U.heap ∧ CX G U ∧ va_D (fun _ => True) bs.flatten)
abbrev kQs (G : GD) (bs : List va_W) (post : Option Value → List va_W → Prop) : Array Value → State → Outcome → State → Prop := fun _ st o t => (∃ (r : Option Value) (bs' : List va_W), o = .returned r ∧ post r bs' ∧ sameAd bs bs' ∧ va_P G.1 vwCl bs'.flatten t.heap) ∧ va_F (AA bs.flatten) st t
/-- a method that changes nothing: its answer -/
abbrev MetP (l : Launch) (y : MethodName) (ws : List Cond) (rm : Room) (G : GD) (bs : List va_W) (av : List Value) (r : Option Value) : Prop := Met l y ws rm (kPp G bs av) (kQp r) 0 0 (fun _ => False)
/-- a method that changes its world: its answer, and the world behind it -/
abbrev MetS (l : Launch) (y : MethodName) (ws : List Cond) (rm : Room) (G : GD) (bs : List va_W) (av : List Value) (post : Option Value → List va_W → Prop) : Prop := Met l y ws rm (kPs G bs av) (kQs G bs post) 0 0 (AA bs.flatten)
theorem kPp_blind {G : GD} {bs : List va_W} {av : List Value} : FrameBlind (kPp G bs av) := fun a U g mk q => ⟨q.1, q.2.1, CX.calling q.2.2⟩
theorem kPs_blind {G : GD} {bs : List va_W} {av : List Value} : FrameBlind (kPs G bs av) := fun a U g mk q => ⟨q.1, q.2.1, CX.calling q.2.2.1, q.2.2.2⟩
section KB
variable {p : Program} {l : Launch} {e : Env} {R : Room} {s : State} {m : MethodId} {args : Array Value} {below : List Frame} {meth : Method} {c : Code} {H : Heap} {locs : List Loc} {cells slots : Nat} {Q : State → Prop}
variable {cc : ByteArray} {pc : Nat} {ls : Array Slot} {rest st0 : List Value} {G : GD} {A : Nat → Prop} {a : Nat} {bs : List va_W} {H0 : Heap}
theorem kb_get (hx : p.tables.exec = Jvm.exec) (hb : c.code = cc) {own C ref n d : String} {T : u_T} {N ci index : Nat} {Ts : List Cond} (hts : ∀ w ∈ Ts, w.before args s = true) (hin : ∀ w ∈ u_ws C T N, w ∈ Ts) (hown : s.vm.findClass own = some m.cls) (hX : CX G s) (hP : va_P G.1 vwCl bs.flatten H) (i : Nat) {b : va_W} {fs : List Value} (hi : bs[i]? = some b) (hj : b[0]? = some (a, .inr (ci, fs))) (hc : vwCl[ci]? = some (C, T, N)) (k : Nat) (hk : k < N) {fin : Bool} (hT : T k = (ref, n, d, fin)) (hlink : Cond.fieldLink own index ref n d ∈ Ts) {v : Value} (hv : fs[k]? = some v) (hdg : decode cc pc = .ok (.getfield index, 3))
    (kk : W p l e R s m args below meth c H locs cells slots Q (F0 m (pc + 3) ls (v :: rest))) : W p l e R s m args below meth c H locs cells slots Q (F0 m pc ls (.ref a :: rest)) := by
  obtain ⟨q, hq, -⟩ := bl_at _ _ _ _ _ hi hj
  exact va_get hx hb hts hin hown hX.1 hP q hq hc k hk (by rw [hT]; exact hts _ hlink) (fun x h => by rw [hT] at h ⊢; exact h) hv hdg kk
theorem kb_getN (hx : p.tables.exec = Jvm.exec) (hb : c.code = cc) {own C ref n d : String} {T : u_T} {N ci index : Nat} {Ts : List Cond} (hts : ∀ w ∈ Ts, w.before args s = true) (hin : ∀ w ∈ u_ws C T N, w ∈ Ts) (hown : s.vm.findClass own = some m.cls) (hX : CX G s) (hP : va_P G.1 vwCl bs.flatten H) (i : Nat) {b : va_W} {fs : List Value} (hi : bs[i]? = some b) (hj : b[0]? = some (a, .inr (ci, fs))) (hc : vwCl[ci]? = some (C, T, N)) (k : Nat) (hk : k < N) {fin : Bool} (hT : T k = (ref, n, d, fin)) (hlink : Cond.fieldLinkNest own index ref n d "DoorsThatRemember" ∈ nW) {v : Value} (hv : fs[k]? = some v) (hdg : decode cc pc = .ok (.getfield index, 3))
    (kk : W p l e R s m args below meth c H locs cells slots Q (F0 m (pc + 3) ls (v :: rest))) : W p l e R s m args below meth c H locs cells slots Q (F0 m pc ls (.ref a :: rest)) := by
  obtain ⟨q, hq, -⟩ := bl_at _ _ _ _ _ hi hj
  exact va_getN (host := "DoorsThatRemember") hx hb hts hin hown hX.1 hP q hq hc k hk (by rw [hT]; exact va_Nw.use rfl (hX.2 _ hlink)) (fun x h => by rw [hT] at h ⊢; exact h) hv hdg kk
theorem kb_put (hx : p.tables.exec = Jvm.exec) (hb : c.code = cc) {own C ref n d : String} {T : u_T} {N ci index : Nat} {Ts : List Cond} (hts : ∀ w ∈ Ts, w.before args s = true) (hin : ∀ w ∈ u_ws C T N, w ∈ Ts) (ty0 : Nat → FieldType) (hty : ∀ k, k < N → parseFieldDescriptor (T k).2.2.1 = some (ty0 k)) (hnm : ∀ a, a < N → ∀ b, b < N → a ≠ b → (T a).2.1 ≠ (T b).2.1) (hown : s.vm.findClass own = some m.cls) (hX : CX G s) (hP : va_P G.1 vwCl bs.flatten H) (hD : va_D A bs.flatten) (hS : va_S A H0 H locs) (i : Nat) {b : va_W} {fs : List Value} (hi : bs[i]? = some b) (hj : b[0]? = some (a, .inr (ci, fs))) (hc : vwCl[ci]? = some (C, T, N)) (k : Nat) (hk : k < N) (hT : T k = (ref, n, d, false)) (hlink : Cond.fieldLink own index ref n d ∈ Ts) {ty : FieldType} {v : Value} (hd : parseFieldDescriptor (T k).2.2.1 = some ty) (hn : narrow ty v = v) (hfit : fits ty v = true) (hl : k < fs.length) (hdg : decode cc pc = .ok (.putfield index, 3))
    (kk : ∀ (H1 : Heap) (locs1 : List Loc), va_P G.1 vwCl (bs.set i (b.set 0 (a, .inr (ci, fs.set k v)))).flatten H1 → va_D A (bs.set i (b.set 0 (a, .inr (ci, fs.set k v)))).flatten → va_S A H0 H1 locs1 → W p l e R s m args below meth c H1 locs1 cells slots Q (F0 m (pc + 3) ls rest)) : W p l e R s m args below meth c H locs cells slots Q (F0 m pc ls (v :: .ref a :: rest)) := by
  obtain ⟨q, hq, hs⟩ := bl_at _ _ _ _ _ hi hj
  refine va_put hx hb hts hin ty0 hty hnm hown hX.1 hP hD hS q hq hc k hk (by rw [hT]; exact hts _ hlink) (fun x h => by rw [hT] at h ⊢; exact h) (by rw [hT]) hd hn hfit hl hdg (fun H1 locs1 h1 h2 h3 => ?_)
  rw [hs] at h1 h2
  exact kk H1 locs1 h1 h2 h3
theorem kb_putF (hx : p.tables.exec = Jvm.exec) (hb : c.code = cc) {own C ref n d : String} {T : u_T} {N ci index : Nat} {Ts : List Cond} (hts : ∀ w ∈ Ts, w.before args s = true) (hin : ∀ w ∈ u_ws C T N, w ∈ Ts) (ty0 : Nat → FieldType) (hty : ∀ k, k < N → parseFieldDescriptor (T k).2.2.1 = some (ty0 k)) (hnm : ∀ a, a < N → ∀ b, b < N → a ≠ b → (T a).2.1 ≠ (T b).2.1) (hown : s.vm.findClass own = some m.cls) (hX : CX G s) (hP : va_P G.1 vwCl bs.flatten H) (hD : va_D A bs.flatten) (hS : va_S A H0 H locs) (i : Nat) {b : va_W} {fs : List Value} (hi : bs[i]? = some b) (hj : b[0]? = some (a, .inr (ci, fs))) (hc : vwCl[ci]? = some (C, T, N)) (k : Nat) (hk : k < N) (hT : T k = (ref, n, d, true)) (hlink : Cond.fieldLink own index ref n d ∈ Ts) (hin2 : meth.name = "<init>") (hdecl : ref = own) {ty : FieldType} {v : Value} (hd : parseFieldDescriptor (T k).2.2.1 = some ty) (hn : narrow ty v = v) (hfit : fits ty v = true) (hl : k < fs.length) (hdg : decode cc pc = .ok (.putfield index, 3))
    (kk : ∀ (H1 : Heap) (locs1 : List Loc), va_P G.1 vwCl (bs.set i (b.set 0 (a, .inr (ci, fs.set k v)))).flatten H1 → va_D A (bs.set i (b.set 0 (a, .inr (ci, fs.set k v)))).flatten → va_S A H0 H1 locs1 → W p l e R s m args below meth c H1 locs1 cells slots Q (F0 m (pc + 3) ls rest)) : W p l e R s m args below meth c H locs cells slots Q (F0 m pc ls (v :: .ref a :: rest)) := by
  obtain ⟨q, hq, hs⟩ := bl_at _ _ _ _ _ hi hj
  refine va_putF hx hb hts hin ty0 hty hnm hown hX.1 hP hD hS q hq hc k hk (by rw [hT]; exact hts _ hlink) (fun x h => by rw [hT] at h ⊢; exact h) (by rw [hT]) hin2 (by rw [hT]; exact hdecl) hd hn hfit hl hdg (fun H1 locs1 h1 h2 h3 => ?_)
  rw [hs] at h1 h2
  exact kk H1 locs1 h1 h2 h3
theorem kb_putN (hx : p.tables.exec = Jvm.exec) (hb : c.code = cc) {own C ref n d : String} {T : u_T} {N ci index : Nat} {Ts : List Cond} (hts : ∀ w ∈ Ts, w.before args s = true) (hin : ∀ w ∈ u_ws C T N, w ∈ Ts) (ty0 : Nat → FieldType) (hty : ∀ k, k < N → parseFieldDescriptor (T k).2.2.1 = some (ty0 k)) (hnm : ∀ a, a < N → ∀ b, b < N → a ≠ b → (T a).2.1 ≠ (T b).2.1) (hown : s.vm.findClass own = some m.cls) (hX : CX G s) (hP : va_P G.1 vwCl bs.flatten H) (hD : va_D A bs.flatten) (hS : va_S A H0 H locs) (i : Nat) {b : va_W} {fs : List Value} (hi : bs[i]? = some b) (hj : b[0]? = some (a, .inr (ci, fs))) (hc : vwCl[ci]? = some (C, T, N)) (k : Nat) (hk : k < N) (hT : T k = (ref, n, d, false)) (hlink : Cond.fieldLinkNest own index ref n d "DoorsThatRemember" ∈ nW) {ty : FieldType} {v : Value} (hd : parseFieldDescriptor (T k).2.2.1 = some ty) (hn : narrow ty v = v) (hfit : fits ty v = true) (hl : k < fs.length) (hdg : decode cc pc = .ok (.putfield index, 3))
    (kk : ∀ (H1 : Heap) (locs1 : List Loc), va_P G.1 vwCl (bs.set i (b.set 0 (a, .inr (ci, fs.set k v)))).flatten H1 → va_D A (bs.set i (b.set 0 (a, .inr (ci, fs.set k v)))).flatten → va_S A H0 H1 locs1 → W p l e R s m args below meth c H1 locs1 cells slots Q (F0 m (pc + 3) ls rest)) : W p l e R s m args below meth c H locs cells slots Q (F0 m pc ls (v :: .ref a :: rest)) := by
  obtain ⟨q, hq, hs⟩ := bl_at _ _ _ _ _ hi hj
  refine va_putN (host := "DoorsThatRemember") hx hb hts hin ty0 hty hnm hown hX.1 hP hD hS q hq hc k hk (by rw [hT]; exact va_Nw.use rfl (hX.2 _ hlink)) (fun x h => by rw [hT] at h ⊢; exact h) (by rw [hT]) hd hn hfit hl hdg (fun H1 locs1 h1 h2 h3 => ?_)
  rw [hs] at h1 h2
  exact kk H1 locs1 h1 h2 h3
theorem kb_iald (hx : p.tables.exec = Jvm.exec) (hb : c.code = cc) (hX : CX G s) (hP : va_P G.1 vwCl bs.flatten H) (i j : Nat) {b : va_W} {n : Nat} {f : Nat → Int32} (hi : bs[i]? = some b) (hj : b[j]? = some (a, .inl (G.2.1, n, .inl f))) {k : Int32} (hin : vp_in k n) (hdg : decode cc pc = .ok (.iaload, 1))
    (kk : W p l e R s m args below meth c H locs cells slots Q (F0 m (pc + 1) ls (.int (f k.toNatClampNeg) :: rest))) : W p l e R s m args below meth c H locs cells slots Q (F0 m pc ls (.int k :: .ref a :: rest)) := by
  obtain ⟨q, hq, -⟩ := bl_at _ _ _ _ _ hi hj
  exact va_iald hx hb hX.1 hP q 0 hq rfl hin hdg kk
theorem kb_bald (hx : p.tables.exec = Jvm.exec) (hb : c.code = cc) (hX : CX G s) (hP : va_P G.1 vwCl bs.flatten H) (i j : Nat) {b : va_W} {n : Nat} {f : Nat → Int32} (hi : bs[i]? = some b) (hj : b[j]? = some (a, .inl (G.2.2.1, n, .inl f))) {k : Int32} (hin : vp_in k n) (hdg : decode cc pc = .ok (.baload, 1))
    (kk : W p l e R s m args below meth c H locs cells slots Q (F0 m (pc + 1) ls (.int (f k.toNatClampNeg) :: rest))) : W p l e R s m args below meth c H locs cells slots Q (F0 m pc ls (.int k :: .ref a :: rest)) := by
  obtain ⟨q, hq, -⟩ := bl_at _ _ _ _ _ hi hj
  exact va_bald hx hb hX.1 hP q 1 hq rfl hin hdg kk
theorem kb_aldq (hx : p.tables.exec = Jvm.exec) (hb : c.code = cc) (hX : CX G s) (hP : va_P G.1 vwCl bs.flatten H) (i j : Nat) {b : va_W} {n : Nat} {f : Nat → Option Nat} (hi : bs[i]? = some b) (hj : b[j]? = some (a, .inl (G.2.2.2, n, .inr (.inr (.inr (.inr f)))))) {k : Int32} (hin : vp_in k n) (hdg : decode cc pc = .ok (.aaload, 1))
    (kk : W p l e R s m args below meth c H locs cells slots Q (F0 m (pc + 1) ls (va_rf (f k.toNatClampNeg) :: rest))) : W p l e R s m args below meth c H locs cells slots Q (F0 m pc ls (.int k :: .ref a :: rest)) := by
  obtain ⟨q, hq, -⟩ := bl_at _ _ _ _ _ hi hj
  exact va_aldq hx hb hX.1 hP q 2 hq rfl hin hdg kk
theorem kb_alen (hx : p.tables.exec = Jvm.exec) (hb : c.code = cc) (hX : CX G s) (hP : va_P G.1 vwCl bs.flatten H) (i j t0 : Nat) {b : va_W} {cA : ClassId} {x : vp_A} (hi : bs[i]? = some b) (hj : b[j]? = some (a, .inl (cA, x))) {ty : FieldType} (ht : [(G.2.1, FieldType.int), (G.2.2.1, FieldType.byte), (G.2.2.2, FieldType.object "DoorsThatRemember$House")][t0]? = some (cA, ty)) {v : Int32} (hv : Int32.ofNat x.1 = v) (hdg : decode cc pc = .ok (.arraylength, 1))
    (kk : W p l e R s m args below meth c H locs cells slots Q (F0 m (pc + 1) ls (.int v :: rest))) : W p l e R s m args below meth c H locs cells slots Q (F0 m pc ls (.ref a :: rest)) := by
  obtain ⟨q, hq, -⟩ := bl_at _ _ _ _ _ hi hj
  exact va_alen hx hb hX.1 hP q t0 hq ht hv hdg kk
theorem kb_iast (hx : p.tables.exec = Jvm.exec) (hb : c.code = cc) (hX : CX G s) (hP : va_P G.1 vwCl bs.flatten H) (hD : va_D A bs.flatten) (hS : va_S A H0 H locs) (i j : Nat) {b : va_W} {n : Nat} {f : Nat → Int32} (hi : bs[i]? = some b) (hj : b[j]? = some (a, .inl (G.2.1, n, .inl f))) {k x : Int32} (hin : vp_in k n) (hdg : decode cc pc = .ok (.iastore, 1))
    (kk : ∀ (H1 : Heap) (locs1 : List Loc), va_P G.1 vwCl (bs.set i (b.set j (a, .inl (G.2.1, n, .inl (upd f k.toNatClampNeg x))))).flatten H1 → va_D A (bs.set i (b.set j (a, .inl (G.2.1, n, .inl (upd f k.toNatClampNeg x))))).flatten → va_S A H0 H1 locs1 → W p l e R s m args below meth c H1 locs1 cells slots Q (F0 m (pc + 1) ls rest)) : W p l e R s m args below meth c H locs cells slots Q (F0 m pc ls (.int x :: .int k :: .ref a :: rest)) := by
  obtain ⟨q, hq, hs⟩ := bl_at _ _ _ _ _ hi hj
  refine va_iast hx hb hX.1 hP hD hS q 0 hq rfl hin hdg (fun H1 locs1 h1 h2 h3 => ?_)
  rw [hs] at h1 h2
  exact kk H1 locs1 h1 h2 h3
theorem kb_bast (hx : p.tables.exec = Jvm.exec) (hb : c.code = cc) (hX : CX G s) (hP : va_P G.1 vwCl bs.flatten H) (hD : va_D A bs.flatten) (hS : va_S A H0 H locs) (i j : Nat) {b : va_W} {n : Nat} {f : Nat → Int32} (hi : bs[i]? = some b) (hj : b[j]? = some (a, .inl (G.2.2.1, n, .inl f))) {k x : Int32} (hin : vp_in k n) (hdg : decode cc pc = .ok (.bastore, 1))
    (kk : ∀ (H1 : Heap) (locs1 : List Loc), va_P G.1 vwCl (bs.set i (b.set j (a, .inl (G.2.2.1, n, .inl (upd f k.toNatClampNeg (vp_nar .byte x)))))).flatten H1 → va_D A (bs.set i (b.set j (a, .inl (G.2.2.1, n, .inl (upd f k.toNatClampNeg (vp_nar .byte x)))))).flatten → va_S A H0 H1 locs1 → W p l e R s m args below meth c H1 locs1 cells slots Q (F0 m (pc + 1) ls rest)) : W p l e R s m args below meth c H locs cells slots Q (F0 m pc ls (.int x :: .int k :: .ref a :: rest)) := by
  obtain ⟨q, hq, hs⟩ := bl_at _ _ _ _ _ hi hj
  refine va_bast hx hb hX.1 hP hD hS q 1 hq rfl hin hdg (fun H1 locs1 h1 h2 h3 => ?_)
  rw [hs] at h1 h2
  exact kk H1 locs1 h1 h2 h3
/-- behind a call that changes nothing -/
theorem kc_p {r : Option Value} {av : Array Value} (hr : va_Run p l e R s m args below meth c H locs cells slots 0 0 (F0 m pc ls st0) rest (kQp r av) (fun _ => False))
    (kk : W p l e R s m args below meth c H locs cells slots Q (F0 m (pc + 3) ls (r.toList ++ rest))) : W p l e R s m args below meth c H locs cells slots Q (F0 m pc ls st0) := by
  intro T hT X
  obtain ⟨v, st₀, t, T', L, h0, X', hL, e1, e2, ⟨hv, hh⟩, st⟩ := hr T hT X
  cases hv
  have hL0 : L = [] := by
    cases L with
    | nil => rfl
    | cons q L => exact absurd (hL q List.mem_cons_self) id
  subst hL0
  rw [List.append_nil] at X'
  obtain ⟨t2, a1, b1⟩ := kk T' (by rw [e1, hh, h0]) X'
  exact ⟨t2, st t2 a1, b1⟩
/-- behind a call that changes its blocks -/
theorem kc_s {bc : List va_W} {post : Option Value → List va_W → Prop} {av : Array Value} (hr : va_Run p l e R s m args below meth c H locs cells slots 0 0 (F0 m pc ls st0) rest (kQs G bc post av) (AA bc.flatten)) (hP : va_P G.1 vwCl bs.flatten H) (hD : va_D A bs.flatten) (hS : va_S A H0 H locs) (is : List Nat) (hn : va_nd is = true) (hC : is.map (fun i => bs[i]?) = bc.map some)
    (kk : ∀ (r : Option Value) (bc' : List va_W), post r bc' → ∀ (H1 : Heap) (locs1 : List Loc), va_P G.1 vwCl (updB bs is bc').flatten H1 → va_D A (updB bs is bc').flatten → va_S A H0 H1 locs1 → W p l e R s m args below meth c H1 locs1 cells slots Q (F0 m (pc + 3) ls (r.toList ++ rest))) : W p l e R s m args below meth c H locs cells slots Q (F0 m pc ls st0) := by
  intro T hT X
  obtain ⟨v, st₀, t, T', L, h0, X', hL, e1, e2, ⟨⟨r, bc', hv, hp, hsa, hP1⟩, hz, hk⟩, st⟩ := hr T hT X
  cases hv
  rw [h0] at hz hk
  rw [← e1] at hP1 hz hk
  have hAA : ∀ q, AA bc.flatten q → AA bs.flatten q := fun q hq => by
    obtain ⟨x, hx, rfl⟩ := List.mem_map.mp hq
    exact List.mem_map.mpr ⟨x, sub_mem hC hx, rfl⟩
  have hA : ∀ q, AA bc.flatten q → A q := fun q hq => (D_iff.mp hD).2 q (hAA q hq)
  refine Exists.elim (kk r bc' hp T'.heap (locs ++ L) ?_ (D_perm hD (updB_perm hn hC hsa)) ⟨Nat.le_trans hS.1 hz, fun q h1 h2 => ?_, fun q hq => ?_⟩ T' rfl X') (fun t2 h => ⟨t2, st t2 h.1, h.2⟩)
  · rw [P_iff] at hP hP1 ⊢
    intro q hq
    have hlen : is.length ≤ bc'.length := by
      have h1 := congrArg List.length hC
      simp only [List.length_map] at h1
      rw [sameAd_len hsa, h1]
    rcases updB_mem hlen hq with h | ⟨k, b, h1, h2, h3⟩
    · exact hP1 q h
    · have hq0 : q ∈ bs.flatten := List.mem_flatten.mpr ⟨b, List.mem_of_getElem? h2, h3⟩
      have h4 := hP q hq0
      refine h4.kept (hk q.1 h4.lt fun hAq => ?_)
      obtain ⟨x, hx, he⟩ := List.mem_map.mp hAq
      obtain ⟨b', hb', hx'⟩ := List.mem_flatten.mp hx
      obtain ⟨i, hi, hbi⟩ := at_idx hC hb'
      exact nd_apart (D_iff.mp hD).1 (fun e => h1 (e ▸ hi)) hbi h2 hx' h3 he
  · rw [hk q (Nat.lt_of_lt_of_le h1 hS.1) (fun z => h2 (hA q z))]
    exact hS.2.1 q h1 h2
  · rcases List.mem_append.mp hq with h | h
    · exact hS.2.2 q h
    · exact hA _ (hL q h)
end KB
end
