section
/-- a private method of a class that the tables say can be made, by its rows of tables_1 -/
def lw_okq (q : MethodName × Nat) : Prop := (q.1.cls ≠ "java/lang/invoke/MethodHandle" ∧ q.1.cls ≠ "java/lang/invoke/VarHandle") ∧ Cond.instantiable q.1.cls q.2 ∈ tables_1 ∧ Cond.privateMethod q.1 ∈ tables_1 ∧ Cond.instanceMethod q.1 ∈ tables_1
theorem lw_p0 : lw_okq (⟨"PourPlan", "plan", "()LPourPlan$Planner;"⟩, 9) := ⟨⟨by decide +kernel, by decide +kernel⟩, List.mem_of_getElem? (i := 11) (by decide +kernel), List.mem_of_getElem? (i := 334) (by decide +kernel), List.mem_of_getElem? (i := 335) (by decide +kernel)⟩
theorem lw_p1 : lw_okq (⟨"PourPlan$Planner", "readWall", "(LPourPlan$Wall;)V"⟩, 18) := ⟨⟨by decide +kernel, by decide +kernel⟩, List.mem_of_getElem? (i := 100) (by decide +kernel), List.mem_of_getElem? (i := 343) (by decide +kernel), List.mem_of_getElem? (i := 344) (by decide +kernel)⟩
theorem lw_p2 : lw_okq (⟨"PourPlan$Planner", "readCells", "(LPourPlan$Wall;)V"⟩, 18) := ⟨⟨by decide +kernel, by decide +kernel⟩, List.mem_of_getElem? (i := 100) (by decide +kernel), List.mem_of_getElem? (i := 347) (by decide +kernel), List.mem_of_getElem? (i := 348) (by decide +kernel)⟩
theorem lw_p3 : lw_okq (⟨"PourPlan$Planner", "readArrivals", "(LPourPlan$Wall;)V"⟩, 18) := ⟨⟨by decide +kernel, by decide +kernel⟩, List.mem_of_getElem? (i := 100) (by decide +kernel), List.mem_of_getElem? (i := 354) (by decide +kernel), List.mem_of_getElem? (i := 355) (by decide +kernel)⟩
theorem lw_p4 : lw_okq (⟨"PourPlan$Planner", "arrivalOf", "(I)I"⟩, 18) := ⟨⟨by decide +kernel, by decide +kernel⟩, List.mem_of_getElem? (i := 100) (by decide +kernel), List.mem_of_getElem? (i := 360) (by decide +kernel), List.mem_of_getElem? (i := 361) (by decide +kernel)⟩
theorem lw_p5 : lw_okq (⟨"PourPlan$Planner", "harmCovered", "()I"⟩, 18) := ⟨⟨by decide +kernel, by decide +kernel⟩, List.mem_of_getElem? (i := 100) (by decide +kernel), List.mem_of_getElem? (i := 364) (by decide +kernel), List.mem_of_getElem? (i := 365) (by decide +kernel)⟩
theorem lw_p6 : lw_okq (⟨"PourPlan$Planner", "harmCovering", "(II)I"⟩, 18) := ⟨⟨by decide +kernel, by decide +kernel⟩, List.mem_of_getElem? (i := 100) (by decide +kernel), List.mem_of_getElem? (i := 368) (by decide +kernel), List.mem_of_getElem? (i := 369) (by decide +kernel)⟩
theorem lw_p7 : lw_okq (⟨"PourPlan$Planner", "extend", "(IIII)V"⟩, 18) := ⟨⟨by decide +kernel, by decide +kernel⟩, List.mem_of_getElem? (i := 100) (by decide +kernel), List.mem_of_getElem? (i := 373) (by decide +kernel), List.mem_of_getElem? (i := 374) (by decide +kernel)⟩
theorem lw_p8 : lw_okq (⟨"PourPlan$Planner", "take", "(II)V"⟩, 18) := ⟨⟨by decide +kernel, by decide +kernel⟩, List.mem_of_getElem? (i := 100) (by decide +kernel), List.mem_of_getElem? (i := 377) (by decide +kernel), List.mem_of_getElem? (i := 378) (by decide +kernel)⟩
theorem lw_p9 : lw_okq (⟨"PourPlan$Planner", "mayBeBetter", "(II)Z"⟩, 18) := ⟨⟨by decide +kernel, by decide +kernel⟩, List.mem_of_getElem? (i := 100) (by decide +kernel), List.mem_of_getElem? (i := 381) (by decide +kernel), List.mem_of_getElem? (i := 382) (by decide +kernel)⟩
theorem lw_p10 : lw_okq (⟨"PourPlan$Planner", "isNext", "(I)Z"⟩, 18) := ⟨⟨by decide +kernel, by decide +kernel⟩, List.mem_of_getElem? (i := 100) (by decide +kernel), List.mem_of_getElem? (i := 388) (by decide +kernel), List.mem_of_getElem? (i := 389) (by decide +kernel)⟩
theorem lw_p11 : lw_okq (⟨"PourPlan$Planner", "harmToCome", "(II)I"⟩, 18) := ⟨⟨by decide +kernel, by decide +kernel⟩, List.mem_of_getElem? (i := 100) (by decide +kernel), List.mem_of_getElem? (i := 393) (by decide +kernel), List.mem_of_getElem? (i := 394) (by decide +kernel)⟩
theorem lw_p12 : lw_okq (⟨"PourPlan$Planner", "leastEnd", "(II)I"⟩, 18) := ⟨⟨by decide +kernel, by decide +kernel⟩, List.mem_of_getElem? (i := 100) (by decide +kernel), List.mem_of_getElem? (i := 397) (by decide +kernel), List.mem_of_getElem? (i := 398) (by decide +kernel)⟩
theorem lw_p13 : lw_okq (⟨"PourPlan", "mayWait", "()I"⟩, 9) := ⟨⟨by decide +kernel, by decide +kernel⟩, List.mem_of_getElem? (i := 11) (by decide +kernel), List.mem_of_getElem? (i := 409) (by decide +kernel), List.mem_of_getElem? (i := 410) (by decide +kernel)⟩
theorem lw_p14 : lw_okq (⟨"PourPlan", "harmBehind", "(I)I"⟩, 9) := ⟨⟨by decide +kernel, by decide +kernel⟩, List.mem_of_getElem? (i := 11) (by decide +kernel), List.mem_of_getElem? (i := 444) (by decide +kernel), List.mem_of_getElem? (i := 445) (by decide +kernel)⟩
theorem lw_p15 : lw_okq (⟨"PourPlan", "mayBeLate", "(I)I"⟩, 9) := ⟨⟨by decide +kernel, by decide +kernel⟩, List.mem_of_getElem? (i := 11) (by decide +kernel), List.mem_of_getElem? (i := 468) (by decide +kernel), List.mem_of_getElem? (i := 469) (by decide +kernel)⟩
def lw_privs_1 : List (MethodName × Nat) := [(⟨"PourPlan", "plan", "()LPourPlan$Planner;"⟩, 9), (⟨"PourPlan$Planner", "readWall", "(LPourPlan$Wall;)V"⟩, 18), (⟨"PourPlan$Planner", "readCells", "(LPourPlan$Wall;)V"⟩, 18), (⟨"PourPlan$Planner", "readArrivals", "(LPourPlan$Wall;)V"⟩, 18), (⟨"PourPlan$Planner", "arrivalOf", "(I)I"⟩, 18), (⟨"PourPlan$Planner", "harmCovered", "()I"⟩, 18), (⟨"PourPlan$Planner", "harmCovering", "(II)I"⟩, 18), (⟨"PourPlan$Planner", "extend", "(IIII)V"⟩, 18), (⟨"PourPlan$Planner", "take", "(II)V"⟩, 18), (⟨"PourPlan$Planner", "mayBeBetter", "(II)Z"⟩, 18), (⟨"PourPlan$Planner", "isNext", "(I)Z"⟩, 18), (⟨"PourPlan$Planner", "harmToCome", "(II)I"⟩, 18), (⟨"PourPlan$Planner", "leastEnd", "(II)I"⟩, 18), (⟨"PourPlan", "mayWait", "()I"⟩, 9), (⟨"PourPlan", "harmBehind", "(I)I"⟩, 9), (⟨"PourPlan", "mayBeLate", "(I)I"⟩, 9)]
theorem lw_r1 : ∀ q ∈ lw_privs_1, lw_okq q := List.forall_mem_cons.mpr ⟨lw_p0, List.forall_mem_cons.mpr ⟨lw_p1, List.forall_mem_cons.mpr ⟨lw_p2, List.forall_mem_cons.mpr ⟨lw_p3, List.forall_mem_cons.mpr ⟨lw_p4, List.forall_mem_cons.mpr ⟨lw_p5, List.forall_mem_cons.mpr ⟨lw_p6, List.forall_mem_cons.mpr ⟨lw_p7, List.forall_mem_cons.mpr ⟨lw_p8, List.forall_mem_cons.mpr ⟨lw_p9, List.forall_mem_cons.mpr ⟨lw_p10, List.forall_mem_cons.mpr ⟨lw_p11, List.forall_mem_cons.mpr ⟨lw_p12, List.forall_mem_cons.mpr ⟨lw_p13, List.forall_mem_cons.mpr ⟨lw_p14, List.forall_mem_cons.mpr ⟨lw_p15, fun _ h => absurd h List.not_mem_nil⟩⟩⟩⟩⟩⟩⟩⟩⟩⟩⟩⟩⟩⟩⟩⟩
theorem lw_p16 : lw_okq (⟨"PourPlan", "beforeDeed", "()V"⟩, 9) := ⟨⟨by decide +kernel, by decide +kernel⟩, List.mem_of_getElem? (i := 11) (by decide +kernel), List.mem_of_getElem? (i := 496) (by decide +kernel), List.mem_of_getElem? (i := 497) (by decide +kernel)⟩
theorem lw_p17 : lw_okq (⟨"PourPlan", "stockIfLate", "(II)I"⟩, 9) := ⟨⟨by decide +kernel, by decide +kernel⟩, List.mem_of_getElem? (i := 11) (by decide +kernel), List.mem_of_getElem? (i := 525) (by decide +kernel), List.mem_of_getElem? (i := 526) (by decide +kernel)⟩
theorem lw_p18 : lw_okq (⟨"PourPlan", "stockWithout", "(I)I"⟩, 9) := ⟨⟨by decide +kernel, by decide +kernel⟩, List.mem_of_getElem? (i := 11) (by decide +kernel), List.mem_of_getElem? (i := 534) (by decide +kernel), List.mem_of_getElem? (i := 535) (by decide +kernel)⟩
theorem lw_p19 : lw_okq (⟨"PourPlan", "driftOnce", "()V"⟩, 9) := ⟨⟨by decide +kernel, by decide +kernel⟩, List.mem_of_getElem? (i := 11) (by decide +kernel), List.mem_of_getElem? (i := 575) (by decide +kernel), List.mem_of_getElem? (i := 576) (by decide +kernel)⟩
theorem lw_p20 : lw_okq (⟨"PourPlan", "draw", "(I)I"⟩, 9) := ⟨⟨by decide +kernel, by decide +kernel⟩, List.mem_of_getElem? (i := 11) (by decide +kernel), List.mem_of_getElem? (i := 579) (by decide +kernel), List.mem_of_getElem? (i := 580) (by decide +kernel)⟩
theorem lw_p21 : lw_okq (⟨"PourPlan", "imageAt", "(I)LPourPlan$Image;"⟩, 9) := ⟨⟨by decide +kernel, by decide +kernel⟩, List.mem_of_getElem? (i := 11) (by decide +kernel), List.mem_of_getElem? (i := 629) (by decide +kernel), List.mem_of_getElem? (i := 630) (by decide +kernel)⟩
theorem lw_p22 : lw_okq (⟨"PourPlanModel", "builds", "(II)V"⟩, 14) := ⟨⟨by decide +kernel, by decide +kernel⟩, List.mem_of_getElem? (i := 641) (by decide +kernel), List.mem_of_getElem? (i := 647) (by decide +kernel), List.mem_of_getElem? (i := 648) (by decide +kernel)⟩
theorem lw_p23 : lw_okq (⟨"PourPlanModel", "brought", "(II)I"⟩, 14) := ⟨⟨by decide +kernel, by decide +kernel⟩, List.mem_of_getElem? (i := 641) (by decide +kernel), List.mem_of_getElem? (i := 698) (by decide +kernel), List.mem_of_getElem? (i := 699) (by decide +kernel)⟩
theorem lw_p24 : lw_okq (⟨"PourPlanModel", "used", "(I)I"⟩, 14) := ⟨⟨by decide +kernel, by decide +kernel⟩, List.mem_of_getElem? (i := 641) (by decide +kernel), List.mem_of_getElem? (i := 702) (by decide +kernel), List.mem_of_getElem? (i := 703) (by decide +kernel)⟩
theorem lw_p25 : lw_okq (⟨"PourPlanModel", "isPoured", "(II)Z"⟩, 14) := ⟨⟨by decide +kernel, by decide +kernel⟩, List.mem_of_getElem? (i := 641) (by decide +kernel), List.mem_of_getElem? (i := 706) (by decide +kernel), List.mem_of_getElem? (i := 707) (by decide +kernel)⟩
theorem lw_p26 : lw_okq (⟨"PourPlanModel", "poured", "()I"⟩, 14) := ⟨⟨by decide +kernel, by decide +kernel⟩, List.mem_of_getElem? (i := 641) (by decide +kernel), List.mem_of_getElem? (i := 710) (by decide +kernel), List.mem_of_getElem? (i := 711) (by decide +kernel)⟩
theorem lw_p27 : lw_okq (⟨"PourPlanModel", "cells", "()I"⟩, 14) := ⟨⟨by decide +kernel, by decide +kernel⟩, List.mem_of_getElem? (i := 641) (by decide +kernel), List.mem_of_getElem? (i := 714) (by decide +kernel), List.mem_of_getElem? (i := 715) (by decide +kernel)⟩
theorem lw_p28 : lw_okq (⟨"PourPlanModel", "can", "()I"⟩, 14) := ⟨⟨by decide +kernel, by decide +kernel⟩, List.mem_of_getElem? (i := 641) (by decide +kernel), List.mem_of_getElem? (i := 718) (by decide +kernel), List.mem_of_getElem? (i := 719) (by decide +kernel)⟩
theorem lw_p29 : lw_okq (⟨"PourPlanModel", "beginOf", "(II)I"⟩, 14) := ⟨⟨by decide +kernel, by decide +kernel⟩, List.mem_of_getElem? (i := 641) (by decide +kernel), List.mem_of_getElem? (i := 722) (by decide +kernel), List.mem_of_getElem? (i := 723) (by decide +kernel)⟩
theorem lw_p30 : lw_okq (⟨"PourPlanModel", "joints", "()I"⟩, 14) := ⟨⟨by decide +kernel, by decide +kernel⟩, List.mem_of_getElem? (i := 641) (by decide +kernel), List.mem_of_getElem? (i := 727) (by decide +kernel), List.mem_of_getElem? (i := 728) (by decide +kernel)⟩
theorem lw_p31 : lw_okq (⟨"PourPlanModel", "isJoint", "(II)Z"⟩, 14) := ⟨⟨by decide +kernel, by decide +kernel⟩, List.mem_of_getElem? (i := 641) (by decide +kernel), List.mem_of_getElem? (i := 731) (by decide +kernel), List.mem_of_getElem? (i := 732) (by decide +kernel)⟩
def lw_privs_2 : List (MethodName × Nat) := [(⟨"PourPlan", "beforeDeed", "()V"⟩, 9), (⟨"PourPlan", "stockIfLate", "(II)I"⟩, 9), (⟨"PourPlan", "stockWithout", "(I)I"⟩, 9), (⟨"PourPlan", "driftOnce", "()V"⟩, 9), (⟨"PourPlan", "draw", "(I)I"⟩, 9), (⟨"PourPlan", "imageAt", "(I)LPourPlan$Image;"⟩, 9), (⟨"PourPlanModel", "builds", "(II)V"⟩, 14), (⟨"PourPlanModel", "brought", "(II)I"⟩, 14), (⟨"PourPlanModel", "used", "(I)I"⟩, 14), (⟨"PourPlanModel", "isPoured", "(II)Z"⟩, 14), (⟨"PourPlanModel", "poured", "()I"⟩, 14), (⟨"PourPlanModel", "cells", "()I"⟩, 14), (⟨"PourPlanModel", "can", "()I"⟩, 14), (⟨"PourPlanModel", "beginOf", "(II)I"⟩, 14), (⟨"PourPlanModel", "joints", "()I"⟩, 14), (⟨"PourPlanModel", "isJoint", "(II)Z"⟩, 14)]
theorem lw_r2 : ∀ q ∈ lw_privs_2, lw_okq q := List.forall_mem_cons.mpr ⟨lw_p16, List.forall_mem_cons.mpr ⟨lw_p17, List.forall_mem_cons.mpr ⟨lw_p18, List.forall_mem_cons.mpr ⟨lw_p19, List.forall_mem_cons.mpr ⟨lw_p20, List.forall_mem_cons.mpr ⟨lw_p21, List.forall_mem_cons.mpr ⟨lw_p22, List.forall_mem_cons.mpr ⟨lw_p23, List.forall_mem_cons.mpr ⟨lw_p24, List.forall_mem_cons.mpr ⟨lw_p25, List.forall_mem_cons.mpr ⟨lw_p26, List.forall_mem_cons.mpr ⟨lw_p27, List.forall_mem_cons.mpr ⟨lw_p28, List.forall_mem_cons.mpr ⟨lw_p29, List.forall_mem_cons.mpr ⟨lw_p30, List.forall_mem_cons.mpr ⟨lw_p31, fun _ h => absurd h List.not_mem_nil⟩⟩⟩⟩⟩⟩⟩⟩⟩⟩⟩⟩⟩⟩⟩⟩
theorem lw_p32 : lw_okq (⟨"PourPlanModel", "beyond", "(II)I"⟩, 14) := ⟨⟨by decide +kernel, by decide +kernel⟩, List.mem_of_getElem? (i := 641) (by decide +kernel), List.mem_of_getElem? (i := 735) (by decide +kernel), List.mem_of_getElem? (i := 736) (by decide +kernel)⟩
theorem lw_p33 : lw_okq (⟨"PourPlanModel", "harm", "(IZ)I"⟩, 14) := ⟨⟨by decide +kernel, by decide +kernel⟩, List.mem_of_getElem? (i := 641) (by decide +kernel), List.mem_of_getElem? (i := 742) (by decide +kernel), List.mem_of_getElem? (i := 743) (by decide +kernel)⟩
theorem lw_p34 : lw_okq (⟨"PourPlanModel", "isOpen", "(II)Z"⟩, 14) := ⟨⟨by decide +kernel, by decide +kernel⟩, List.mem_of_getElem? (i := 641) (by decide +kernel), List.mem_of_getElem? (i := 746) (by decide +kernel), List.mem_of_getElem? (i := 747) (by decide +kernel)⟩
theorem lw_p35 : lw_okq (⟨"PourPlanModel", "firstToSet", "()I"⟩, 14) := ⟨⟨by decide +kernel, by decide +kernel⟩, List.mem_of_getElem? (i := 641) (by decide +kernel), List.mem_of_getElem? (i := 750) (by decide +kernel), List.mem_of_getElem? (i := 751) (by decide +kernel)⟩
theorem lw_p36 : lw_okq (⟨"PourPlanModel", "left", "(I)I"⟩, 14) := ⟨⟨by decide +kernel, by decide +kernel⟩, List.mem_of_getElem? (i := 641) (by decide +kernel), List.mem_of_getElem? (i := 754) (by decide +kernel), List.mem_of_getElem? (i := 755) (by decide +kernel)⟩
theorem lw_p37 : lw_okq (⟨"PourPlanModel", "ofBest", "(I)I"⟩, 14) := ⟨⟨by decide +kernel, by decide +kernel⟩, List.mem_of_getElem? (i := 641) (by decide +kernel), List.mem_of_getElem? (i := 758) (by decide +kernel), List.mem_of_getElem? (i := 759) (by decide +kernel)⟩
theorem lw_p38 : lw_okq (⟨"PourPlanModel", "finds", "()V"⟩, 14) := ⟨⟨by decide +kernel, by decide +kernel⟩, List.mem_of_getElem? (i := 641) (by decide +kernel), List.mem_of_getElem? (i := 762) (by decide +kernel), List.mem_of_getElem? (i := 763) (by decide +kernel)⟩
theorem lw_p39 : lw_okq (⟨"PourPlanModel", "copy", "(II)V"⟩, 14) := ⟨⟨by decide +kernel, by decide +kernel⟩, List.mem_of_getElem? (i := 641) (by decide +kernel), List.mem_of_getElem? (i := 766) (by decide +kernel), List.mem_of_getElem? (i := 767) (by decide +kernel)⟩
theorem lw_p40 : lw_okq (⟨"PourPlanModel", "seeks", "()V"⟩, 14) := ⟨⟨by decide +kernel, by decide +kernel⟩, List.mem_of_getElem? (i := 641) (by decide +kernel), List.mem_of_getElem? (i := 770) (by decide +kernel), List.mem_of_getElem? (i := 771) (by decide +kernel)⟩
theorem lw_p41 : lw_okq (⟨"PourPlanModel", "weighs", "(I)V"⟩, 14) := ⟨⟨by decide +kernel, by decide +kernel⟩, List.mem_of_getElem? (i := 641) (by decide +kernel), List.mem_of_getElem? (i := 774) (by decide +kernel), List.mem_of_getElem? (i := 775) (by decide +kernel)⟩
theorem lw_p42 : lw_okq (⟨"PourPlanModel", "pours", "(II)Z"⟩, 14) := ⟨⟨by decide +kernel, by decide +kernel⟩, List.mem_of_getElem? (i := 641) (by decide +kernel), List.mem_of_getElem? (i := 778) (by decide +kernel), List.mem_of_getElem? (i := 779) (by decide +kernel)⟩
theorem lw_p43 : lw_okq (⟨"PourPlanModel", "mayWait", "()I"⟩, 14) := ⟨⟨by decide +kernel, by decide +kernel⟩, List.mem_of_getElem? (i := 641) (by decide +kernel), List.mem_of_getElem? (i := 782) (by decide +kernel), List.mem_of_getElem? (i := 783) (by decide +kernel)⟩
theorem lw_p44 : lw_okq (⟨"PourPlanModel", "wrong", "()I"⟩, 14) := ⟨⟨by decide +kernel, by decide +kernel⟩, List.mem_of_getElem? (i := 641) (by decide +kernel), List.mem_of_getElem? (i := 786) (by decide +kernel), List.mem_of_getElem? (i := 787) (by decide +kernel)⟩
theorem lw_p45 : lw_okq (⟨"PourPlanModel", "isCell", "(I)Z"⟩, 14) := ⟨⟨by decide +kernel, by decide +kernel⟩, List.mem_of_getElem? (i := 641) (by decide +kernel), List.mem_of_getElem? (i := 795) (by decide +kernel), List.mem_of_getElem? (i := 796) (by decide +kernel)⟩
theorem lw_p46 : lw_okq (⟨"PourPlanModel", "harmBehind", "(I)I"⟩, 14) := ⟨⟨by decide +kernel, by decide +kernel⟩, List.mem_of_getElem? (i := 641) (by decide +kernel), List.mem_of_getElem? (i := 800) (by decide +kernel), List.mem_of_getElem? (i := 801) (by decide +kernel)⟩
theorem lw_p47 : lw_okq (⟨"PourPlanModel", "isTruck", "(I)Z"⟩, 14) := ⟨⟨by decide +kernel, by decide +kernel⟩, List.mem_of_getElem? (i := 641) (by decide +kernel), List.mem_of_getElem? (i := 812) (by decide +kernel), List.mem_of_getElem? (i := 813) (by decide +kernel)⟩
def lw_privs_3 : List (MethodName × Nat) := [(⟨"PourPlanModel", "beyond", "(II)I"⟩, 14), (⟨"PourPlanModel", "harm", "(IZ)I"⟩, 14), (⟨"PourPlanModel", "isOpen", "(II)Z"⟩, 14), (⟨"PourPlanModel", "firstToSet", "()I"⟩, 14), (⟨"PourPlanModel", "left", "(I)I"⟩, 14), (⟨"PourPlanModel", "ofBest", "(I)I"⟩, 14), (⟨"PourPlanModel", "finds", "()V"⟩, 14), (⟨"PourPlanModel", "copy", "(II)V"⟩, 14), (⟨"PourPlanModel", "seeks", "()V"⟩, 14), (⟨"PourPlanModel", "weighs", "(I)V"⟩, 14), (⟨"PourPlanModel", "pours", "(II)Z"⟩, 14), (⟨"PourPlanModel", "mayWait", "()I"⟩, 14), (⟨"PourPlanModel", "wrong", "()I"⟩, 14), (⟨"PourPlanModel", "isCell", "(I)Z"⟩, 14), (⟨"PourPlanModel", "harmBehind", "(I)I"⟩, 14), (⟨"PourPlanModel", "isTruck", "(I)Z"⟩, 14)]
theorem lw_r3 : ∀ q ∈ lw_privs_3, lw_okq q := List.forall_mem_cons.mpr ⟨lw_p32, List.forall_mem_cons.mpr ⟨lw_p33, List.forall_mem_cons.mpr ⟨lw_p34, List.forall_mem_cons.mpr ⟨lw_p35, List.forall_mem_cons.mpr ⟨lw_p36, List.forall_mem_cons.mpr ⟨lw_p37, List.forall_mem_cons.mpr ⟨lw_p38, List.forall_mem_cons.mpr ⟨lw_p39, List.forall_mem_cons.mpr ⟨lw_p40, List.forall_mem_cons.mpr ⟨lw_p41, List.forall_mem_cons.mpr ⟨lw_p42, List.forall_mem_cons.mpr ⟨lw_p43, List.forall_mem_cons.mpr ⟨lw_p44, List.forall_mem_cons.mpr ⟨lw_p45, List.forall_mem_cons.mpr ⟨lw_p46, List.forall_mem_cons.mpr ⟨lw_p47, fun _ h => absurd h List.not_mem_nil⟩⟩⟩⟩⟩⟩⟩⟩⟩⟩⟩⟩⟩⟩⟩⟩
theorem lw_p48 : lw_okq (⟨"PourPlanModel", "mayBeLate", "(I)I"⟩, 14) := ⟨⟨by decide +kernel, by decide +kernel⟩, List.mem_of_getElem? (i := 641) (by decide +kernel), List.mem_of_getElem? (i := 816) (by decide +kernel), List.mem_of_getElem? (i := 817) (by decide +kernel)⟩
theorem lw_p49 : lw_okq (⟨"PourPlanModel", "minds", "()V"⟩, 14) := ⟨⟨by decide +kernel, by decide +kernel⟩, List.mem_of_getElem? (i := 641) (by decide +kernel), List.mem_of_getElem? (i := 828) (by decide +kernel), List.mem_of_getElem? (i := 829) (by decide +kernel)⟩
theorem lw_p50 : lw_okq (⟨"PourPlanModel", "comes", "(II)V"⟩, 14) := ⟨⟨by decide +kernel, by decide +kernel⟩, List.mem_of_getElem? (i := 641) (by decide +kernel), List.mem_of_getElem? (i := 839) (by decide +kernel), List.mem_of_getElem? (i := 840) (by decide +kernel)⟩
theorem lw_p51 : lw_okq (⟨"PourPlanModel", "draws", "()V"⟩, 14) := ⟨⟨by decide +kernel, by decide +kernel⟩, List.mem_of_getElem? (i := 641) (by decide +kernel), List.mem_of_getElem? (i := 881) (by decide +kernel), List.mem_of_getElem? (i := 882) (by decide +kernel)⟩
theorem lw_p52 : lw_okq (⟨"PourPlanModel", "draw", "(I)I"⟩, 14) := ⟨⟨by decide +kernel, by decide +kernel⟩, List.mem_of_getElem? (i := 641) (by decide +kernel), List.mem_of_getElem? (i := 885) (by decide +kernel), List.mem_of_getElem? (i := 886) (by decide +kernel)⟩
def lw_privs_4 : List (MethodName × Nat) := [(⟨"PourPlanModel", "mayBeLate", "(I)I"⟩, 14), (⟨"PourPlanModel", "minds", "()V"⟩, 14), (⟨"PourPlanModel", "comes", "(II)V"⟩, 14), (⟨"PourPlanModel", "draws", "()V"⟩, 14), (⟨"PourPlanModel", "draw", "(I)I"⟩, 14)]
theorem lw_r4 : ∀ q ∈ lw_privs_4, lw_okq q := List.forall_mem_cons.mpr ⟨lw_p48, List.forall_mem_cons.mpr ⟨lw_p49, List.forall_mem_cons.mpr ⟨lw_p50, List.forall_mem_cons.mpr ⟨lw_p51, List.forall_mem_cons.mpr ⟨lw_p52, fun _ h => absurd h List.not_mem_nil⟩⟩⟩⟩⟩
def lw_privs : List (MethodName × Nat) := lw_privs_1 ++ (lw_privs_2 ++ (lw_privs_3 ++ (lw_privs_4)))
def lw_tbl : List Cond := k2_sels lw_privs ++ tables_1
theorem lw_privs_ok : ∀ q ∈ lw_privs, lw_okq q := by
  show ∀ q ∈ lw_privs_1 ++ (lw_privs_2 ++ (lw_privs_3 ++ (lw_privs_4))), lw_okq q
  exact List.forall_mem_append.mpr ⟨lw_r1, List.forall_mem_append.mpr ⟨lw_r2, List.forall_mem_append.mpr ⟨lw_r3, lw_r4⟩⟩⟩
end
section
def RX0 : String := "PourPlan$Book"
def TX0 : u_T := fun k => match k with
  | 0 => ("PourPlan$Book", "size", "I", false)
  | 1 => ("PourPlan$Book", "edges", "[I", true)
  | _ => ("PourPlan$Book", "joints", "[Z", true)
def tyX0 : Nat → FieldType := fun k => match k with
  | 0 => .int
  | 1 => .array .int
  | _ => .array .boolean
abbrev wsX00 : List Cond := u_ws RX0 TX0 3
theorem nmX0 : ∀ a, a < 3 → ∀ b, b < 3 → a ≠ b → (TX0 a).2.1 ≠ (TX0 b).2.1 := by decide +kernel
theorem tyX0_ok : ∀ k, k < 3 → parseFieldDescriptor (TX0 k).2.2.1 = some (tyX0 k) := by decide +kernel
abbrev cX0_init : ByteArray := prog_2_method_1_code
def yX0_init : MethodName := ⟨RX0, "<init>", "()V"⟩
abbrev cX0_hasRoom : ByteArray := prog_2_method_2_code
def yX0_hasRoom : MethodName := ⟨RX0, "hasRoom", "()Z"⟩
abbrev cX0_enter : ByteArray := prog_2_method_3_code
def yX0_enter : MethodName := ⟨RX0, "enter", "(IZ)V"⟩
abbrev cX0_firstWrong : ByteArray := prog_2_method_4_code
def yX0_firstWrong : MethodName := ⟨RX0, "firstWrong", "(LPourPlan$Wall;)I"⟩
def RX1 : String := "PourPlan$History"
def TX1 : u_T := fun k => match k with
  | 0 => ("PourPlan$History", "count", "I", false)
  | 1 => ("PourPlan$History", "next", "I", false)
  | _ => ("PourPlan$History", "walls", "[LPourPlan$Wall;", true)
def tyX1 : Nat → FieldType := fun k => match k with
  | 0 => .int
  | 1 => .int
  | _ => .array (.object "PourPlan$Wall")
abbrev wsX10 : List Cond := u_ws RX1 TX1 3
theorem nmX1 : ∀ a, a < 3 → ∀ b, b < 3 → a ≠ b → (TX1 a).2.1 ≠ (TX1 b).2.1 := by decide +kernel
theorem tyX1_ok : ∀ k, k < 3 → parseFieldDescriptor (TX1 k).2.2.1 = some (tyX1 k) := by decide +kernel
abbrev cX1_init : ByteArray := prog_3_method_1_code
def yX1_init : MethodName := ⟨RX1, "<init>", "()V"⟩
abbrev cX1_remember : ByteArray := prog_3_method_2_code
def yX1_remember : MethodName := ⟨RX1, "remember", "(LPourPlan$Wall;)V"⟩
abbrev cX1_takeBack : ByteArray := prog_3_method_3_code
def yX1_takeBack : MethodName := ⟨RX1, "takeBack", "(ILPourPlan$Wall;)V"⟩
abbrev cX1_forget : ByteArray := prog_3_method_4_code
def yX1_forget : MethodName := ⟨RX1, "forget", "()V"⟩
def RX2 : String := "PourPlan$Image"
def TX2 : u_T := fun k => match k with
  | 0 => ("PourPlan$Image", "kept", "Z", false)
  | 1 => ("PourPlan$Image", "seedThen", "I", false)
  | _ => ("PourPlan$Image", "wallThen", "LPourPlan$Wall;", true)
def tyX2 : Nat → FieldType := fun k => match k with
  | 0 => .boolean
  | 1 => .int
  | _ => .object "PourPlan$Wall"
abbrev wsX20 : List Cond := u_ws RX2 TX2 3
theorem nmX2 : ∀ a, a < 3 → ∀ b, b < 3 → a ≠ b → (TX2 a).2.1 ≠ (TX2 b).2.1 := by decide +kernel
theorem tyX2_ok : ∀ k, k < 3 → parseFieldDescriptor (TX2 k).2.2.1 = some (tyX2 k) := by decide +kernel
abbrev cX2_init : ByteArray := prog_4_method_1_code
def yX2_init : MethodName := ⟨RX2, "<init>", "()V"⟩
def RX3 : String := "PourPlan$Planner"
def TX3 : u_T := fun k => match k with
  | 0 => ("PourPlan$Planner", "found", "Z", false)
  | 1 => ("PourPlan$Planner", "count", "I", false)
  | 2 => ("PourPlan$Planner", "bestHarm", "I", false)
  | 3 => ("PourPlan$Planner", "bestEnd", "I", false)
  | 4 => ("PourPlan$Planner", "strips", "I", false)
  | 5 => ("PourPlan$Planner", "layers", "I", false)
  | 6 => ("PourPlan$Planner", "cells", "I", false)
  | 7 => ("PourPlan$Planner", "age", "I", false)
  | 8 => ("PourPlan$Planner", "heavy", "I", false)
  | 9 => ("PourPlan$Planner", "light", "I", false)
  | 10 => ("PourPlan$Planner", "allNeeds", "I", false)
  | 11 => ("PourPlan$Planner", "lastNeed", "I", false)
  | 12 => ("PourPlan$Planner", "harmAlone", "Z", false)
  | 13 => ("PourPlan$Planner", "needs", "[I", true)
  | 14 => ("PourPlan$Planner", "done", "[I", true)
  | 15 => ("PourPlan$Planner", "order", "[I", true)
  | 16 => ("PourPlan$Planner", "bestOrder", "[I", true)
  | _ => ("PourPlan$Planner", "arrivals", "[I", true)
def tyX3 : Nat → FieldType := fun k => match k with
  | 0 => .boolean
  | 1 => .int
  | 2 => .int
  | 3 => .int
  | 4 => .int
  | 5 => .int
  | 6 => .int
  | 7 => .int
  | 8 => .int
  | 9 => .int
  | 10 => .int
  | 11 => .int
  | 12 => .boolean
  | 13 => .array .int
  | 14 => .array .int
  | 15 => .array .int
  | 16 => .array .int
  | _ => .array .int
abbrev wsX30 : List Cond := u_ws RX3 TX3 18
theorem nmX3 : ∀ a, a < 18 → ∀ b, b < 18 → a ≠ b → (TX3 a).2.1 ≠ (TX3 b).2.1 := by decide +kernel
theorem tyX3_ok : ∀ k, k < 18 → parseFieldDescriptor (TX3 k).2.2.1 = some (tyX3 k) := by decide +kernel
abbrev cX3_init : ByteArray := prog_5_method_1_code
def yX3_init : MethodName := ⟨RX3, "<init>", "()V"⟩
abbrev cX3_leastHarmIs : ByteArray := prog_5_method_2_code
def yX3_leastHarmIs : MethodName := ⟨RX3, "leastHarmIs", "(LPourPlan$Wall;I)Z"⟩
abbrev cX3_leastHarm : ByteArray := prog_5_method_3_code
def yX3_leastHarm : MethodName := ⟨RX3, "leastHarm", "()I"⟩
abbrev cX3_earliestEnd : ByteArray := prog_5_method_4_code
def yX3_earliestEnd : MethodName := ⟨RX3, "earliestEnd", "()I"⟩
abbrev cX3_cellAt : ByteArray := prog_5_method_5_code
def yX3_cellAt : MethodName := ⟨RX3, "cellAt", "(I)I"⟩
abbrev cX3_search : ByteArray := prog_5_method_6_code
def yX3_search : MethodName := ⟨RX3, "search", "(LPourPlan$Wall;IZ)V"⟩
abbrev cX3_readWall : ByteArray := prog_5_method_7_code
def yX3_readWall : MethodName := ⟨RX3, "readWall", "(LPourPlan$Wall;)V"⟩
abbrev cX3_readCells : ByteArray := prog_5_method_8_code
def yX3_readCells : MethodName := ⟨RX3, "readCells", "(LPourPlan$Wall;)V"⟩
abbrev cX3_readArrivals : ByteArray := prog_5_method_9_code
def yX3_readArrivals : MethodName := ⟨RX3, "readArrivals", "(LPourPlan$Wall;)V"⟩
abbrev cX3_arrivalOf : ByteArray := prog_5_method_10_code
def yX3_arrivalOf : MethodName := ⟨RX3, "arrivalOf", "(I)I"⟩
abbrev cX3_harmCovered : ByteArray := prog_5_method_11_code
def yX3_harmCovered : MethodName := ⟨RX3, "harmCovered", "()I"⟩
abbrev cX3_extend : ByteArray := prog_5_method_12_code
def yX3_extend : MethodName := ⟨RX3, "extend", "(IIII)V"⟩
abbrev cX3_isNext : ByteArray := prog_5_method_13_code
def yX3_isNext : MethodName := ⟨RX3, "isNext", "(I)Z"⟩
abbrev cX3_take : ByteArray := prog_5_method_14_code
def yX3_take : MethodName := ⟨RX3, "take", "(II)V"⟩
abbrev cX3_mayBeBetter : ByteArray := prog_5_method_15_code
def yX3_mayBeBetter : MethodName := ⟨RX3, "mayBeBetter", "(II)Z"⟩
abbrev cX3_leastEnd : ByteArray := prog_5_method_16_code
def yX3_leastEnd : MethodName := ⟨RX3, "leastEnd", "(II)I"⟩
abbrev cX3_harmToCome : ByteArray := prog_5_method_17_code
def yX3_harmToCome : MethodName := ⟨RX3, "harmToCome", "(II)I"⟩
abbrev cX3_harmCovering : ByteArray := prog_5_method_18_code
def yX3_harmCovering : MethodName := ⟨RX3, "harmCovering", "(II)I"⟩
def RX4 : String := "PourPlan$Wall"
def TX4 : u_T := fun k => match k with
  | 0 => ("PourPlan$Wall", "strips", "I", false)
  | 1 => ("PourPlan$Wall", "layers", "I", false)
  | 2 => ("PourPlan$Wall", "cells", "I", false)
  | 3 => ("PourPlan$Wall", "time", "I", false)
  | 4 => ("PourPlan$Wall", "age", "I", false)
  | 5 => ("PourPlan$Wall", "heavy", "I", false)
  | 6 => ("PourPlan$Wall", "light", "I", false)
  | 7 => ("PourPlan$Wall", "trucks", "I", false)
  | 8 => ("PourPlan$Wall", "needs", "[I", true)
  | 9 => ("PourPlan$Wall", "begun", "[I", true)
  | 10 => ("PourPlan$Wall", "done", "[I", true)
  | 11 => ("PourPlan$Wall", "truckTimes", "[I", true)
  | _ => ("PourPlan$Wall", "truckLoads", "[I", true)
def tyX4 : Nat → FieldType := fun k => match k with
  | 0 => .int
  | 1 => .int
  | 2 => .int
  | 3 => .int
  | 4 => .int
  | 5 => .int
  | 6 => .int
  | 7 => .int
  | 8 => .array .int
  | 9 => .array .int
  | 10 => .array .int
  | 11 => .array .int
  | _ => .array .int
abbrev wsX40 : List Cond := u_ws RX4 TX4 13
theorem nmX4 : ∀ a, a < 13 → ∀ b, b < 13 → a ≠ b → (TX4 a).2.1 ≠ (TX4 b).2.1 := by decide +kernel
theorem tyX4_ok : ∀ k, k < 13 → parseFieldDescriptor (TX4 k).2.2.1 = some (tyX4 k) := by decide +kernel
abbrev cX4_init : ByteArray := prog_6_method_1_code
def yX4_init : MethodName := ⟨RX4, "<init>", "()V"⟩
abbrev cX4_raise : ByteArray := prog_6_method_2_code
def yX4_raise : MethodName := ⟨RX4, "raise", "(II)V"⟩
abbrev cX4_copyFrom : ByteArray := prog_6_method_3_code
def yX4_copyFrom : MethodName := ⟨RX4, "copyFrom", "(LPourPlan$Wall;)V"⟩
abbrev cX4_swapBound : ByteArray := prog_6_method_4_code
def yX4_swapBound : MethodName := ⟨RX4, "swapBound", "(II)I"⟩
abbrev cX4_isCell : ByteArray := prog_6_method_5_code
def yX4_isCell : MethodName := ⟨RX4, "isCell", "(I)Z"⟩
abbrev cX4_isPoured : ByteArray := prog_6_method_6_code
def yX4_isPoured : MethodName := ⟨RX4, "isPoured", "(I)Z"⟩
abbrev cX4_pouredSet : ByteArray := prog_6_method_7_code
def yX4_pouredSet : MethodName := ⟨RX4, "pouredSet", "()I"⟩
abbrev cX4_pouredCount : ByteArray := prog_6_method_8_code
def yX4_pouredCount : MethodName := ⟨RX4, "pouredCount", "()I"⟩
abbrev cX4_canSet : ByteArray := prog_6_method_9_code
def yX4_canSet : MethodName := ⟨RX4, "canSet", "()I"⟩
abbrev cX4_startOf : ByteArray := prog_6_method_10_code
def yX4_startOf : MethodName := ⟨RX4, "startOf", "(I)I"⟩
abbrev cX4_fill : ByteArray := prog_6_method_11_code
def yX4_fill : MethodName := ⟨RX4, "fill", "(I)V"⟩
abbrev cX4_isTruck : ByteArray := prog_6_method_12_code
def yX4_isTruck : MethodName := ⟨RX4, "isTruck", "(I)Z"⟩
abbrev cX4_hasTruckRoom : ByteArray := prog_6_method_13_code
def yX4_hasTruckRoom : MethodName := ⟨RX4, "hasTruckRoom", "()Z"⟩
abbrev cX4_addTruck : ByteArray := prog_6_method_14_code
def yX4_addTruck : MethodName := ⟨RX4, "addTruck", "(II)V"⟩
abbrev cX4_delay : ByteArray := prog_6_method_15_code
def yX4_delay : MethodName := ⟨RX4, "delay", "(II)V"⟩
abbrev cX4_dropTruck : ByteArray := prog_6_method_16_code
def yX4_dropTruck : MethodName := ⟨RX4, "dropTruck", "(I)V"⟩
abbrev cX4_broughtBy : ByteArray := prog_6_method_17_code
def yX4_broughtBy : MethodName := ⟨RX4, "broughtBy", "(I)I"⟩
abbrev cX4_broughtAt : ByteArray := prog_6_method_18_code
def yX4_broughtAt : MethodName := ⟨RX4, "broughtAt", "(I)I"⟩
abbrev cX4_usedLoads : ByteArray := prog_6_method_19_code
def yX4_usedLoads : MethodName := ⟨RX4, "usedLoads", "()I"⟩
abbrev cX4_stock : ByteArray := prog_6_method_20_code
def yX4_stock : MethodName := ⟨RX4, "stock", "()I"⟩
abbrev cX4_edges : ByteArray := prog_6_method_21_code
def yX4_edges : MethodName := ⟨RX4, "edges", "()I"⟩
abbrev cX4_across : ByteArray := prog_6_method_22_code
def yX4_across : MethodName := ⟨RX4, "across", "(I)I"⟩
abbrev cX4_isEdge : ByteArray := prog_6_method_23_code
def yX4_isEdge : MethodName := ⟨RX4, "isEdge", "(I)Z"⟩
abbrev cX4_isOpen : ByteArray := prog_6_method_24_code
def yX4_isOpen : MethodName := ⟨RX4, "isOpen", "(I)Z"⟩
abbrev cX4_ageOf : ByteArray := prog_6_method_25_code
def yX4_ageOf : MethodName := ⟨RX4, "ageOf", "(I)I"⟩
abbrev cX4_isJoint : ByteArray := prog_6_method_26_code
def yX4_isJoint : MethodName := ⟨RX4, "isJoint", "(I)Z"⟩
abbrev cX4_timeLeft : ByteArray := prog_6_method_27_code
def yX4_timeLeft : MethodName := ⟨RX4, "timeLeft", "(I)I"⟩
abbrev cX4_harmOf : ByteArray := prog_6_method_28_code
def yX4_harmOf : MethodName := ⟨RX4, "harmOf", "(I)I"⟩
abbrev cX4_joints : ByteArray := prog_6_method_29_code
def yX4_joints : MethodName := ⟨RX4, "joints", "()I"⟩
abbrev cX4_harm : ByteArray := prog_6_method_30_code
def yX4_harm : MethodName := ⟨RX4, "harm", "()I"⟩
abbrev cX4_stoppedHarm : ByteArray := prog_6_method_31_code
def yX4_stoppedHarm : MethodName := ⟨RX4, "stoppedHarm", "()I"⟩
abbrev cX4_firstToSet : ByteArray := prog_6_method_32_code
def yX4_firstToSet : MethodName := ⟨RX4, "firstToSet", "()I"⟩
def RX5 : String := "PourPlan"
def TX5 : u_T := fun k => match k with
  | 0 => ("PourPlan", "wall", "LPourPlan$Wall;", true)
  | 1 => ("PourPlan", "trial", "LPourPlan$Wall;", true)
  | 2 => ("PourPlan", "planner", "LPourPlan$Planner;", true)
  | 3 => ("PourPlan", "tryout", "LPourPlan$Planner;", true)
  | 4 => ("PourPlan", "history", "LPourPlan$History;", true)
  | 5 => ("PourPlan", "book", "LPourPlan$Book;", true)
  | 6 => ("PourPlan", "images", "[LPourPlan$Image;", true)
  | 7 => ("PourPlan", "seedNow", "I", false)
  | _ => ("PourPlan", "planned", "Z", false)
def tyX5 : Nat → FieldType := fun k => match k with
  | 0 => .object "PourPlan$Wall"
  | 1 => .object "PourPlan$Wall"
  | 2 => .object "PourPlan$Planner"
  | 3 => .object "PourPlan$Planner"
  | 4 => .object "PourPlan$History"
  | 5 => .object "PourPlan$Book"
  | 6 => .array (.object "PourPlan$Image")
  | 7 => .int
  | _ => .boolean
abbrev wsX50 : List Cond := u_ws RX5 TX5 9
theorem nmX5 : ∀ a, a < 9 → ∀ b, b < 9 → a ≠ b → (TX5 a).2.1 ≠ (TX5 b).2.1 := by decide +kernel
theorem tyX5_ok : ∀ k, k < 9 → parseFieldDescriptor (TX5 k).2.2.1 = some (tyX5 k) := by decide +kernel
abbrev cX5_init : ByteArray := prog_1_method_1_code
def yX5_init : MethodName := ⟨RX5, "<init>", "()V"⟩
abbrev cX5_told : ByteArray := prog_1_method_2_code
def yX5_told : MethodName := ⟨RX5, "told", "(I)I"⟩
abbrev cX5_cell : ByteArray := prog_1_method_3_code
def yX5_cell : MethodName := ⟨RX5, "cell", "(II)I"⟩
abbrev cX5_edge : ByteArray := prog_1_method_4_code
def yX5_edge : MethodName := ⟨RX5, "edge", "(II)I"⟩
abbrev cX5_truckAt : ByteArray := prog_1_method_5_code
def yX5_truckAt : MethodName := ⟨RX5, "truckAt", "(II)I"⟩
abbrev cX5_build : ByteArray := prog_1_method_6_code
def yX5_build : MethodName := ⟨RX5, "build", "(II)I"⟩
abbrev cX5_truck : ByteArray := prog_1_method_7_code
def yX5_truck : MethodName := ⟨RX5, "truck", "(II)I"⟩
abbrev cX5_late : ByteArray := prog_1_method_8_code
def yX5_late : MethodName := ⟨RX5, "late", "(II)I"⟩
abbrev cX5_away : ByteArray := prog_1_method_9_code
def yX5_away : MethodName := ⟨RX5, "away", "(I)I"⟩
abbrev cX5_need : ByteArray := prog_1_method_10_code
def yX5_need : MethodName := ⟨RX5, "need", "(II)I"⟩
abbrev cX5_bound : ByteArray := prog_1_method_11_code
def yX5_bound : MethodName := ⟨RX5, "bound", "(II)I"⟩
abbrev cX5_pour : ByteArray := prog_1_method_12_code
def yX5_pour : MethodName := ⟨RX5, "pour", "(I)I"⟩
abbrev cX5_rest : ByteArray := prog_1_method_13_code
def yX5_rest : MethodName := ⟨RX5, "rest", "(I)I"⟩
abbrev cX5_follow : ByteArray := prog_1_method_14_code
def yX5_follow : MethodName := ⟨RX5, "follow", "()I"⟩
abbrev cX5_drift : ByteArray := prog_1_method_15_code
def yX5_drift : MethodName := ⟨RX5, "drift", "(I)I"⟩
abbrev cX5_undo : ByteArray := prog_1_method_16_code
def yX5_undo : MethodName := ⟨RX5, "undo", "(I)I"⟩
abbrev cX5_best : ByteArray := prog_1_method_17_code
def yX5_best : MethodName := ⟨RX5, "best", "(I)I"⟩
abbrev cX5_stop : ByteArray := prog_1_method_18_code
def yX5_stop : MethodName := ⟨RX5, "stop", "(I)I"⟩
abbrev cX5_write : ByteArray := prog_1_method_19_code
def yX5_write : MethodName := ⟨RX5, "write", "(IZ)I"⟩
abbrev cX5_tear : ByteArray := prog_1_method_20_code
def yX5_tear : MethodName := ⟨RX5, "tear", "()I"⟩
abbrev cX5_seed : ByteArray := prog_1_method_21_code
def yX5_seed : MethodName := ⟨RX5, "seed", "(I)I"⟩
abbrev cX5_keep : ByteArray := prog_1_method_22_code
def yX5_keep : MethodName := ⟨RX5, "keep", "(I)I"⟩
abbrev cX5_goBack : ByteArray := prog_1_method_23_code
def yX5_goBack : MethodName := ⟨RX5, "goBack", "(I)I"⟩
abbrev cX5_within : ByteArray := prog_1_method_24_code
def yX5_within : MethodName := ⟨RX5, "within", "(III)Z"⟩
abbrev cX5_beforeDeed : ByteArray := prog_1_method_25_code
def yX5_beforeDeed : MethodName := ⟨RX5, "beforeDeed", "()V"⟩
abbrev cX5_plan : ByteArray := prog_1_method_26_code
def yX5_plan : MethodName := ⟨RX5, "plan", "()LPourPlan$Planner;"⟩
abbrev cX5_harmBehind : ByteArray := prog_1_method_27_code
def yX5_harmBehind : MethodName := ⟨RX5, "harmBehind", "(I)I"⟩
abbrev cX5_stockIfLate : ByteArray := prog_1_method_28_code
def yX5_stockIfLate : MethodName := ⟨RX5, "stockIfLate", "(II)I"⟩
abbrev cX5_stockWithout : ByteArray := prog_1_method_29_code
def yX5_stockWithout : MethodName := ⟨RX5, "stockWithout", "(I)I"⟩
abbrev cX5_mayWait : ByteArray := prog_1_method_30_code
def yX5_mayWait : MethodName := ⟨RX5, "mayWait", "()I"⟩
abbrev cX5_mayBeLate : ByteArray := prog_1_method_31_code
def yX5_mayBeLate : MethodName := ⟨RX5, "mayBeLate", "(I)I"⟩
abbrev cX5_imageAt : ByteArray := prog_1_method_32_code
def yX5_imageAt : MethodName := ⟨RX5, "imageAt", "(I)LPourPlan$Image;"⟩
abbrev cX5_draw : ByteArray := prog_1_method_33_code
def yX5_draw : MethodName := ⟨RX5, "draw", "(I)I"⟩
abbrev cX5_driftOnce : ByteArray := prog_1_method_34_code
def yX5_driftOnce : MethodName := ⟨RX5, "driftOnce", "()V"⟩
abbrev cX5_copyRow : ByteArray := prog_1_method_35_code
def yX5_copyRow : MethodName := ⟨RX5, "copyRow", "([I[I)V"⟩
abbrev cX5_fillRow : ByteArray := prog_1_method_36_code
def yX5_fillRow : MethodName := ⟨RX5, "fillRow", "([II)V"⟩
def RX6 : String := "PourPlanModel"
def TX6 : u_T := fun k => match k with
  | 0 => ("PourPlanModel", "w", "[I", true)
  | 1 => ("PourPlanModel", "imageSeed", "[I", true)
  | 2 => ("PourPlanModel", "isKept", "[Z", true)
  | 3 => ("PourPlanModel", "undos", "I", false)
  | 4 => ("PourPlanModel", "seed", "I", false)
  | 5 => ("PourPlanModel", "entries", "I", false)
  | 6 => ("PourPlanModel", "bookEdge", "[I", true)
  | 7 => ("PourPlanModel", "bookJoint", "[Z", true)
  | 8 => ("PourPlanModel", "bestMany", "I", false)
  | 9 => ("PourPlanModel", "bestHarm", "I", false)
  | 10 => ("PourPlanModel", "bestTime", "I", false)
  | 11 => ("PourPlanModel", "bestCells", "[I", true)
  | 12 => ("PourPlanModel", "chosen", "[I", true)
  | _ => ("PourPlanModel", "times", "[I", true)
def tyX6 : Nat → FieldType := fun k => match k with
  | 0 => .array .int
  | 1 => .array .int
  | 2 => .array .boolean
  | 3 => .int
  | 4 => .int
  | 5 => .int
  | 6 => .array .int
  | 7 => .array .boolean
  | 8 => .int
  | 9 => .int
  | 10 => .int
  | 11 => .array .int
  | 12 => .array .int
  | _ => .array .int
abbrev wsX60 : List Cond := u_ws RX6 TX6 14
theorem nmX6 : ∀ a, a < 14 → ∀ b, b < 14 → a ≠ b → (TX6 a).2.1 ≠ (TX6 b).2.1 := by decide +kernel
theorem tyX6_ok : ∀ k, k < 14 → parseFieldDescriptor (TX6 k).2.2.1 = some (tyX6 k) := by decide +kernel
abbrev cX6_init : ByteArray := prog_8_method_1_code
def yX6_init : MethodName := ⟨RX6, "<init>", "()V"⟩
abbrev cX6_in : ByteArray := prog_8_method_3_code
def yX6_in : MethodName := ⟨RX6, "in", "(JJJ)Z"⟩
abbrev cX6_copy : ByteArray := prog_8_method_4_code
def yX6_copy : MethodName := ⟨RX6, "copy", "(II)V"⟩
abbrev cX6_builds : ByteArray := prog_8_method_5_code
def yX6_builds : MethodName := ⟨RX6, "builds", "(II)V"⟩
abbrev cX6_minds : ByteArray := prog_8_method_6_code
def yX6_minds : MethodName := ⟨RX6, "minds", "()V"⟩
abbrev cX6_cells : ByteArray := prog_8_method_7_code
def yX6_cells : MethodName := ⟨RX6, "cells", "()I"⟩
abbrev cX6_isCell : ByteArray := prog_8_method_8_code
def yX6_isCell : MethodName := ⟨RX6, "isCell", "(I)Z"⟩
abbrev cX6_isTruck : ByteArray := prog_8_method_9_code
def yX6_isTruck : MethodName := ⟨RX6, "isTruck", "(I)Z"⟩
abbrev cX6_isPoured : ByteArray := prog_8_method_10_code
def yX6_isPoured : MethodName := ⟨RX6, "isPoured", "(II)Z"⟩
abbrev cX6_used : ByteArray := prog_8_method_11_code
def yX6_used : MethodName := ⟨RX6, "used", "(I)I"⟩
abbrev cX6_brought : ByteArray := prog_8_method_12_code
def yX6_brought : MethodName := ⟨RX6, "brought", "(II)I"⟩
abbrev cX6_beginOf : ByteArray := prog_8_method_13_code
def yX6_beginOf : MethodName := ⟨RX6, "beginOf", "(II)I"⟩
abbrev cX6_pours : ByteArray := prog_8_method_14_code
def yX6_pours : MethodName := ⟨RX6, "pours", "(II)Z"⟩
abbrev cX6_poured : ByteArray := prog_8_method_15_code
def yX6_poured : MethodName := ⟨RX6, "poured", "()I"⟩
abbrev cX6_ones : ByteArray := prog_8_method_16_code
def yX6_ones : MethodName := ⟨RX6, "ones", "(I)I"⟩
abbrev cX6_beyond : ByteArray := prog_8_method_17_code
def yX6_beyond : MethodName := ⟨RX6, "beyond", "(II)I"⟩
abbrev cX6_isOpen : ByteArray := prog_8_method_18_code
def yX6_isOpen : MethodName := ⟨RX6, "isOpen", "(II)Z"⟩
abbrev cX6_isJoint : ByteArray := prog_8_method_19_code
def yX6_isJoint : MethodName := ⟨RX6, "isJoint", "(II)Z"⟩
abbrev cX6_harm : ByteArray := prog_8_method_20_code
def yX6_harm : MethodName := ⟨RX6, "harm", "(IZ)I"⟩
abbrev cX6_left : ByteArray := prog_8_method_21_code
def yX6_left : MethodName := ⟨RX6, "left", "(I)I"⟩
abbrev cX6_firstToSet : ByteArray := prog_8_method_22_code
def yX6_firstToSet : MethodName := ⟨RX6, "firstToSet", "()I"⟩
abbrev cX6_weighs : ByteArray := prog_8_method_23_code
def yX6_weighs : MethodName := ⟨RX6, "weighs", "(I)V"⟩
abbrev cX6_seeks : ByteArray := prog_8_method_24_code
def yX6_seeks : MethodName := ⟨RX6, "seeks", "()V"⟩
abbrev cX6_finds : ByteArray := prog_8_method_25_code
def yX6_finds : MethodName := ⟨RX6, "finds", "()V"⟩
abbrev cX6_mayWait : ByteArray := prog_8_method_26_code
def yX6_mayWait : MethodName := ⟨RX6, "mayWait", "()I"⟩
abbrev cX6_mayBeLate : ByteArray := prog_8_method_27_code
def yX6_mayBeLate : MethodName := ⟨RX6, "mayBeLate", "(I)I"⟩
abbrev cX6_joints : ByteArray := prog_8_method_28_code
def yX6_joints : MethodName := ⟨RX6, "joints", "()I"⟩
abbrev cX6_can : ByteArray := prog_8_method_29_code
def yX6_can : MethodName := ⟨RX6, "can", "()I"⟩
abbrev cX6_wrong : ByteArray := prog_8_method_30_code
def yX6_wrong : MethodName := ⟨RX6, "wrong", "()I"⟩
abbrev cX6_ofBest : ByteArray := prog_8_method_31_code
def yX6_ofBest : MethodName := ⟨RX6, "ofBest", "(I)I"⟩
abbrev cX6_told : ByteArray := prog_8_method_32_code
def yX6_told : MethodName := ⟨RX6, "told", "(I)I"⟩
abbrev cX6_harmBehind : ByteArray := prog_8_method_33_code
def yX6_harmBehind : MethodName := ⟨RX6, "harmBehind", "(I)I"⟩
abbrev cX6_cell : ByteArray := prog_8_method_34_code
def yX6_cell : MethodName := ⟨RX6, "cell", "(II)I"⟩
abbrev cX6_edge : ByteArray := prog_8_method_35_code
def yX6_edge : MethodName := ⟨RX6, "edge", "(II)I"⟩
abbrev cX6_truckAt : ByteArray := prog_8_method_36_code
def yX6_truckAt : MethodName := ⟨RX6, "truckAt", "(II)I"⟩
abbrev cX6_build : ByteArray := prog_8_method_37_code
def yX6_build : MethodName := ⟨RX6, "build", "(II)I"⟩
abbrev cX6_comes : ByteArray := prog_8_method_38_code
def yX6_comes : MethodName := ⟨RX6, "comes", "(II)V"⟩
abbrev cX6_truck : ByteArray := prog_8_method_39_code
def yX6_truck : MethodName := ⟨RX6, "truck", "(II)I"⟩
abbrev cX6_late : ByteArray := prog_8_method_40_code
def yX6_late : MethodName := ⟨RX6, "late", "(II)I"⟩
abbrev cX6_away : ByteArray := prog_8_method_41_code
def yX6_away : MethodName := ⟨RX6, "away", "(I)I"⟩
abbrev cX6_need : ByteArray := prog_8_method_42_code
def yX6_need : MethodName := ⟨RX6, "need", "(II)I"⟩
abbrev cX6_bound : ByteArray := prog_8_method_43_code
def yX6_bound : MethodName := ⟨RX6, "bound", "(II)I"⟩
abbrev cX6_pour : ByteArray := prog_8_method_44_code
def yX6_pour : MethodName := ⟨RX6, "pour", "(I)I"⟩
abbrev cX6_rest : ByteArray := prog_8_method_45_code
def yX6_rest : MethodName := ⟨RX6, "rest", "(I)I"⟩
abbrev cX6_follow : ByteArray := prog_8_method_46_code
def yX6_follow : MethodName := ⟨RX6, "follow", "()I"⟩
abbrev cX6_draw : ByteArray := prog_8_method_47_code
def yX6_draw : MethodName := ⟨RX6, "draw", "(I)I"⟩
abbrev cX6_draws : ByteArray := prog_8_method_48_code
def yX6_draws : MethodName := ⟨RX6, "draws", "()V"⟩
abbrev cX6_drift : ByteArray := prog_8_method_49_code
def yX6_drift : MethodName := ⟨RX6, "drift", "(I)I"⟩
abbrev cX6_undo : ByteArray := prog_8_method_50_code
def yX6_undo : MethodName := ⟨RX6, "undo", "(I)I"⟩
abbrev cX6_best : ByteArray := prog_8_method_51_code
def yX6_best : MethodName := ⟨RX6, "best", "(I)I"⟩
abbrev cX6_stop : ByteArray := prog_8_method_52_code
def yX6_stop : MethodName := ⟨RX6, "stop", "(I)I"⟩
abbrev cX6_write : ByteArray := prog_8_method_53_code
def yX6_write : MethodName := ⟨RX6, "write", "(IZ)I"⟩
abbrev cX6_tear : ByteArray := prog_8_method_54_code
def yX6_tear : MethodName := ⟨RX6, "tear", "()I"⟩
abbrev cX6_seed : ByteArray := prog_8_method_55_code
def yX6_seed : MethodName := ⟨RX6, "seed", "(I)I"⟩
abbrev cX6_keep : ByteArray := prog_8_method_56_code
def yX6_keep : MethodName := ⟨RX6, "keep", "(I)I"⟩
abbrev cX6_goBack : ByteArray := prog_8_method_57_code
def yX6_goBack : MethodName := ⟨RX6, "goBack", "(I)I"⟩
def RJ6 : String := "java/lang/Integer"
def TJ6 : u_T := fun k => match k with
  | _ => ("", "", "", false)
def tyJ6 : Nat → FieldType := fun k => match k with
  | _ => .int
abbrev cJ6_bitCount_0f7a4 : ByteArray := prog_9_method_49_code
def yJ6_bitCount_0f7a4 : MethodName := ⟨RJ6, "bitCount", "(I)I"⟩
def RJ9 : String := "java/lang/Math"
def TJ9 : u_T := fun k => match k with
  | _ => ("", "", "", false)
def tyJ9 : Nat → FieldType := fun k => match k with
  | _ => .int
abbrev cJ9_max_7cf53 : ByteArray := prog_10_method_65_code
def yJ9_max_7cf53 : MethodName := ⟨RJ9, "max", "(II)I"⟩
abbrev cJ9_min_7cf53 : ByteArray := prog_10_method_69_code
def yJ9_min_7cf53 : MethodName := ⟨RJ9, "min", "(II)I"⟩
def RL : String := "PourPlanLaw"
abbrev cL_law : ByteArray := code
def yL_law : MethodName := ⟨RL, "law", "([I)Z"⟩
abbrev vwCl : List vw_C := [(RX0, TX0, 3), (RX1, TX1, 3), (RX2, TX2, 3), (RX3, TX3, 18), (RX4, TX4, 13), (RX5, TX5, 9), (RX6, TX6, 14)]
end
section
theorem dX0_init_0 : decode cX0_init 0 = .ok (.aload_n 0, 1) := by decide +kernel
theorem dX0_init_1 : decode cX0_init 1 = .ok (.invokespecial 3, 3) := by decide +kernel
theorem dX0_init_4 : decode cX0_init 4 = .ok (.aload_n 0, 1) := by decide +kernel
theorem dX0_init_5 : decode cX0_init 5 = .ok (.bipush 20, 2) := by decide +kernel
theorem dX0_init_7 : decode cX0_init 7 = .ok (.newarray .int, 2) := by decide +kernel
theorem dX0_init_9 : decode cX0_init 9 = .ok (.putfield 9, 3) := by decide +kernel
theorem dX0_init_12 : decode cX0_init 12 = .ok (.aload_n 0, 1) := by decide +kernel
theorem dX0_init_13 : decode cX0_init 13 = .ok (.bipush 20, 2) := by decide +kernel
theorem dX0_init_15 : decode cX0_init 15 = .ok (.newarray .boolean, 2) := by decide +kernel
theorem dX0_init_17 : decode cX0_init 17 = .ok (.putfield 15, 3) := by decide +kernel
theorem dX0_init_20 : decode cX0_init 20 = .ok (.return_, 1) := by decide +kernel
theorem dX0_hasRoom_0 : decode cX0_hasRoom 0 = .ok (.aload_n 0, 1) := by decide +kernel
theorem dX0_hasRoom_1 : decode cX0_hasRoom 1 = .ok (.getfield 19, 3) := by decide +kernel
theorem dX0_hasRoom_4 : decode cX0_hasRoom 4 = .ok (.bipush 20, 2) := by decide +kernel
theorem dX0_hasRoom_6 : decode cX0_hasRoom 6 = .ok (.if_icmp .ge 7, 3) := by decide +kernel
theorem dX0_hasRoom_9 : decode cX0_hasRoom 9 = .ok (.iconst 1, 1) := by decide +kernel
theorem dX0_hasRoom_10 : decode cX0_hasRoom 10 = .ok (.goto 4, 3) := by decide +kernel
theorem dX0_hasRoom_13 : decode cX0_hasRoom 13 = .ok (.iconst 0, 1) := by decide +kernel
theorem dX0_hasRoom_14 : decode cX0_hasRoom 14 = .ok (.ireturn, 1) := by decide +kernel
theorem dX0_enter_0 : decode cX0_enter 0 = .ok (.aload_n 0, 1) := by decide +kernel
theorem dX0_enter_1 : decode cX0_enter 1 = .ok (.invokevirtual 23, 3) := by decide +kernel
theorem dX0_enter_4 : decode cX0_enter 4 = .ok (.ifCond .ne 4, 3) := by decide +kernel
theorem dX0_enter_7 : decode cX0_enter 7 = .ok (.return_, 1) := by decide +kernel
theorem dX0_enter_8 : decode cX0_enter 8 = .ok (.aload_n 0, 1) := by decide +kernel
theorem dX0_enter_9 : decode cX0_enter 9 = .ok (.getfield 9, 3) := by decide +kernel
theorem dX0_enter_12 : decode cX0_enter 12 = .ok (.aload_n 0, 1) := by decide +kernel
theorem dX0_enter_13 : decode cX0_enter 13 = .ok (.getfield 19, 3) := by decide +kernel
theorem dX0_enter_16 : decode cX0_enter 16 = .ok (.iload_n 1, 1) := by decide +kernel
theorem dX0_enter_17 : decode cX0_enter 17 = .ok (.iastore, 1) := by decide +kernel
theorem dX0_enter_18 : decode cX0_enter 18 = .ok (.aload_n 0, 1) := by decide +kernel
theorem dX0_enter_19 : decode cX0_enter 19 = .ok (.getfield 15, 3) := by decide +kernel
theorem dX0_enter_22 : decode cX0_enter 22 = .ok (.aload_n 0, 1) := by decide +kernel
theorem dX0_enter_23 : decode cX0_enter 23 = .ok (.getfield 19, 3) := by decide +kernel
theorem dX0_enter_26 : decode cX0_enter 26 = .ok (.iload_n 2, 1) := by decide +kernel
theorem dX0_enter_27 : decode cX0_enter 27 = .ok (.bastore, 1) := by decide +kernel
theorem dX0_enter_28 : decode cX0_enter 28 = .ok (.aload_n 0, 1) := by decide +kernel
theorem dX0_enter_29 : decode cX0_enter 29 = .ok (.dup, 1) := by decide +kernel
theorem dX0_enter_30 : decode cX0_enter 30 = .ok (.getfield 19, 3) := by decide +kernel
theorem dX0_enter_33 : decode cX0_enter 33 = .ok (.iconst 1, 1) := by decide +kernel
theorem dX0_enter_34 : decode cX0_enter 34 = .ok (.iadd, 1) := by decide +kernel
theorem dX0_enter_35 : decode cX0_enter 35 = .ok (.putfield 19, 3) := by decide +kernel
theorem dX0_enter_38 : decode cX0_enter 38 = .ok (.return_, 1) := by decide +kernel
theorem dX0_firstWrong_0 : decode cX0_firstWrong 0 = .ok (.iconst 0, 1) := by decide +kernel
theorem dX0_firstWrong_1 : decode cX0_firstWrong 1 = .ok (.istore_n 2, 1) := by decide +kernel
theorem dX0_firstWrong_2 : decode cX0_firstWrong 2 = .ok (.iload_n 2, 1) := by decide +kernel
theorem dX0_firstWrong_3 : decode cX0_firstWrong 3 = .ok (.aload_n 0, 1) := by decide +kernel
theorem dX0_firstWrong_4 : decode cX0_firstWrong 4 = .ok (.getfield 19, 3) := by decide +kernel
theorem dX0_firstWrong_7 : decode cX0_firstWrong 7 = .ok (.if_icmp .ge 49, 3) := by decide +kernel
theorem dX0_firstWrong_10 : decode cX0_firstWrong 10 = .ok (.iload_n 2, 1) := by decide +kernel
theorem dX0_firstWrong_11 : decode cX0_firstWrong 11 = .ok (.bipush 20, 2) := by decide +kernel
theorem dX0_firstWrong_13 : decode cX0_firstWrong 13 = .ok (.if_icmp .ge 43, 3) := by decide +kernel
theorem dX0_firstWrong_16 : decode cX0_firstWrong 16 = .ok (.aload_n 1, 1) := by decide +kernel
theorem dX0_firstWrong_17 : decode cX0_firstWrong 17 = .ok (.aload_n 0, 1) := by decide +kernel
theorem dX0_firstWrong_18 : decode cX0_firstWrong 18 = .ok (.getfield 9, 3) := by decide +kernel
theorem dX0_firstWrong_21 : decode cX0_firstWrong 21 = .ok (.iload_n 2, 1) := by decide +kernel
theorem dX0_firstWrong_22 : decode cX0_firstWrong 22 = .ok (.iaload, 1) := by decide +kernel
theorem dX0_firstWrong_23 : decode cX0_firstWrong 23 = .ok (.invokevirtual 27, 3) := by decide +kernel
theorem dX0_firstWrong_26 : decode cX0_firstWrong 26 = .ok (.ifCond .eq 22, 3) := by decide +kernel
theorem dX0_firstWrong_29 : decode cX0_firstWrong 29 = .ok (.aload_n 1, 1) := by decide +kernel
theorem dX0_firstWrong_30 : decode cX0_firstWrong 30 = .ok (.aload_n 0, 1) := by decide +kernel
theorem dX0_firstWrong_31 : decode cX0_firstWrong 31 = .ok (.getfield 9, 3) := by decide +kernel
theorem dX0_firstWrong_34 : decode cX0_firstWrong 34 = .ok (.iload_n 2, 1) := by decide +kernel
theorem dX0_firstWrong_35 : decode cX0_firstWrong 35 = .ok (.iaload, 1) := by decide +kernel
theorem dX0_firstWrong_36 : decode cX0_firstWrong 36 = .ok (.invokevirtual 33, 3) := by decide +kernel
theorem dX0_firstWrong_39 : decode cX0_firstWrong 39 = .ok (.aload_n 0, 1) := by decide +kernel
theorem dX0_firstWrong_40 : decode cX0_firstWrong 40 = .ok (.getfield 15, 3) := by decide +kernel
theorem dX0_firstWrong_43 : decode cX0_firstWrong 43 = .ok (.iload_n 2, 1) := by decide +kernel
theorem dX0_firstWrong_44 : decode cX0_firstWrong 44 = .ok (.baload, 1) := by decide +kernel
theorem dX0_firstWrong_45 : decode cX0_firstWrong 45 = .ok (.if_icmp .eq 5, 3) := by decide +kernel
theorem dX0_firstWrong_48 : decode cX0_firstWrong 48 = .ok (.iload_n 2, 1) := by decide +kernel
theorem dX0_firstWrong_49 : decode cX0_firstWrong 49 = .ok (.ireturn, 1) := by decide +kernel
theorem dX0_firstWrong_50 : decode cX0_firstWrong 50 = .ok (.iinc 2 1, 3) := by decide +kernel
theorem dX0_firstWrong_53 : decode cX0_firstWrong 53 = .ok (.goto (-51), 3) := by decide +kernel
theorem dX0_firstWrong_56 : decode cX0_firstWrong 56 = .ok (.iconst (-1), 1) := by decide +kernel
theorem dX0_firstWrong_57 : decode cX0_firstWrong 57 = .ok (.ireturn, 1) := by decide +kernel
theorem dX1_init_0 : decode cX1_init 0 = .ok (.aload_n 0, 1) := by decide +kernel
theorem dX1_init_1 : decode cX1_init 1 = .ok (.invokespecial 3, 3) := by decide +kernel
theorem dX1_init_4 : decode cX1_init 4 = .ok (.aload_n 0, 1) := by decide +kernel
theorem dX1_init_5 : decode cX1_init 5 = .ok (.bipush 20, 2) := by decide +kernel
theorem dX1_init_7 : decode cX1_init 7 = .ok (.anewarray 9, 3) := by decide +kernel
theorem dX1_init_10 : decode cX1_init 10 = .ok (.putfield 11, 3) := by decide +kernel
theorem dX1_init_13 : decode cX1_init 13 = .ok (.iconst 0, 1) := by decide +kernel
theorem dX1_init_14 : decode cX1_init 14 = .ok (.istore_n 1, 1) := by decide +kernel
theorem dX1_init_15 : decode cX1_init 15 = .ok (.iload_n 1, 1) := by decide +kernel
theorem dX1_init_16 : decode cX1_init 16 = .ok (.aload_n 0, 1) := by decide +kernel
theorem dX1_init_17 : decode cX1_init 17 = .ok (.getfield 11, 3) := by decide +kernel
theorem dX1_init_20 : decode cX1_init 20 = .ok (.arraylength, 1) := by decide +kernel
theorem dX1_init_21 : decode cX1_init 21 = .ok (.if_icmp .ge 22, 3) := by decide +kernel
theorem dX1_init_24 : decode cX1_init 24 = .ok (.aload_n 0, 1) := by decide +kernel
theorem dX1_init_25 : decode cX1_init 25 = .ok (.getfield 11, 3) := by decide +kernel
theorem dX1_init_28 : decode cX1_init 28 = .ok (.iload_n 1, 1) := by decide +kernel
theorem dX1_init_29 : decode cX1_init 29 = .ok (.new 9, 3) := by decide +kernel
theorem dX1_init_32 : decode cX1_init 32 = .ok (.dup, 1) := by decide +kernel
theorem dX1_init_33 : decode cX1_init 33 = .ok (.invokespecial 17, 3) := by decide +kernel
theorem dX1_init_36 : decode cX1_init 36 = .ok (.aastore, 1) := by decide +kernel
theorem dX1_init_37 : decode cX1_init 37 = .ok (.iinc 1 1, 3) := by decide +kernel
theorem dX1_init_40 : decode cX1_init 40 = .ok (.goto (-25), 3) := by decide +kernel
theorem dX1_init_43 : decode cX1_init 43 = .ok (.return_, 1) := by decide +kernel
theorem dX1_remember_0 : decode cX1_remember 0 = .ok (.aload_n 0, 1) := by decide +kernel
theorem dX1_remember_1 : decode cX1_remember 1 = .ok (.getfield 11, 3) := by decide +kernel
theorem dX1_remember_4 : decode cX1_remember 4 = .ok (.aload_n 0, 1) := by decide +kernel
theorem dX1_remember_5 : decode cX1_remember 5 = .ok (.getfield 18, 3) := by decide +kernel
theorem dX1_remember_8 : decode cX1_remember 8 = .ok (.aaload, 1) := by decide +kernel
theorem dX1_remember_9 : decode cX1_remember 9 = .ok (.aload_n 1, 1) := by decide +kernel
theorem dX1_remember_10 : decode cX1_remember 10 = .ok (.invokevirtual 22, 3) := by decide +kernel
theorem dX1_remember_13 : decode cX1_remember 13 = .ok (.aload_n 0, 1) := by decide +kernel
theorem dX1_remember_14 : decode cX1_remember 14 = .ok (.aload_n 0, 1) := by decide +kernel
theorem dX1_remember_15 : decode cX1_remember 15 = .ok (.getfield 18, 3) := by decide +kernel
theorem dX1_remember_18 : decode cX1_remember 18 = .ok (.iconst 1, 1) := by decide +kernel
theorem dX1_remember_19 : decode cX1_remember 19 = .ok (.iadd, 1) := by decide +kernel
theorem dX1_remember_20 : decode cX1_remember 20 = .ok (.aload_n 0, 1) := by decide +kernel
theorem dX1_remember_21 : decode cX1_remember 21 = .ok (.getfield 11, 3) := by decide +kernel
theorem dX1_remember_24 : decode cX1_remember 24 = .ok (.arraylength, 1) := by decide +kernel
theorem dX1_remember_25 : decode cX1_remember 25 = .ok (.if_icmp .ge 12, 3) := by decide +kernel
theorem dX1_remember_28 : decode cX1_remember 28 = .ok (.aload_n 0, 1) := by decide +kernel
theorem dX1_remember_29 : decode cX1_remember 29 = .ok (.getfield 18, 3) := by decide +kernel
theorem dX1_remember_32 : decode cX1_remember 32 = .ok (.iconst 1, 1) := by decide +kernel
theorem dX1_remember_33 : decode cX1_remember 33 = .ok (.iadd, 1) := by decide +kernel
theorem dX1_remember_34 : decode cX1_remember 34 = .ok (.goto 4, 3) := by decide +kernel
theorem dX1_remember_37 : decode cX1_remember 37 = .ok (.iconst 0, 1) := by decide +kernel
theorem dX1_remember_38 : decode cX1_remember 38 = .ok (.putfield 18, 3) := by decide +kernel
theorem dX1_remember_41 : decode cX1_remember 41 = .ok (.aload_n 0, 1) := by decide +kernel
theorem dX1_remember_42 : decode cX1_remember 42 = .ok (.aload_n 0, 1) := by decide +kernel
theorem dX1_remember_43 : decode cX1_remember 43 = .ok (.getfield 26, 3) := by decide +kernel
theorem dX1_remember_46 : decode cX1_remember 46 = .ok (.iconst 1, 1) := by decide +kernel
theorem dX1_remember_47 : decode cX1_remember 47 = .ok (.iadd, 1) := by decide +kernel
theorem dX1_remember_48 : decode cX1_remember 48 = .ok (.aload_n 0, 1) := by decide +kernel
theorem dX1_remember_49 : decode cX1_remember 49 = .ok (.getfield 11, 3) := by decide +kernel
theorem dX1_remember_52 : decode cX1_remember 52 = .ok (.arraylength, 1) := by decide +kernel
theorem dX1_remember_53 : decode cX1_remember 53 = .ok (.invokestatic 29, 3) := by decide +kernel
theorem dX1_remember_56 : decode cX1_remember 56 = .ok (.putfield 26, 3) := by decide +kernel
theorem dX1_remember_59 : decode cX1_remember 59 = .ok (.return_, 1) := by decide +kernel
theorem dX1_takeBack_0 : decode cX1_takeBack 0 = .ok (.iload_n 1, 1) := by decide +kernel
theorem dX1_takeBack_1 : decode cX1_takeBack 1 = .ok (.iconst 1, 1) := by decide +kernel
theorem dX1_takeBack_2 : decode cX1_takeBack 2 = .ok (.if_icmp .lt 11, 3) := by decide +kernel
theorem dX1_takeBack_5 : decode cX1_takeBack 5 = .ok (.iload_n 1, 1) := by decide +kernel
theorem dX1_takeBack_6 : decode cX1_takeBack 6 = .ok (.aload_n 0, 1) := by decide +kernel
theorem dX1_takeBack_7 : decode cX1_takeBack 7 = .ok (.getfield 26, 3) := by decide +kernel
theorem dX1_takeBack_10 : decode cX1_takeBack 10 = .ok (.if_icmp .le 4, 3) := by decide +kernel
theorem dX1_takeBack_13 : decode cX1_takeBack 13 = .ok (.return_, 1) := by decide +kernel
theorem dX1_takeBack_14 : decode cX1_takeBack 14 = .ok (.aload_n 0, 1) := by decide +kernel
theorem dX1_takeBack_15 : decode cX1_takeBack 15 = .ok (.aload_n 0, 1) := by decide +kernel
theorem dX1_takeBack_16 : decode cX1_takeBack 16 = .ok (.getfield 18, 3) := by decide +kernel
theorem dX1_takeBack_19 : decode cX1_takeBack 19 = .ok (.iload_n 1, 1) := by decide +kernel
theorem dX1_takeBack_20 : decode cX1_takeBack 20 = .ok (.if_icmp .lt 12, 3) := by decide +kernel
theorem dX1_takeBack_23 : decode cX1_takeBack 23 = .ok (.aload_n 0, 1) := by decide +kernel
theorem dX1_takeBack_24 : decode cX1_takeBack 24 = .ok (.getfield 18, 3) := by decide +kernel
theorem dX1_takeBack_27 : decode cX1_takeBack 27 = .ok (.iload_n 1, 1) := by decide +kernel
theorem dX1_takeBack_28 : decode cX1_takeBack 28 = .ok (.isub, 1) := by decide +kernel
theorem dX1_takeBack_29 : decode cX1_takeBack 29 = .ok (.goto 15, 3) := by decide +kernel
theorem dX1_takeBack_32 : decode cX1_takeBack 32 = .ok (.aload_n 0, 1) := by decide +kernel
theorem dX1_takeBack_33 : decode cX1_takeBack 33 = .ok (.getfield 18, 3) := by decide +kernel
theorem dX1_takeBack_36 : decode cX1_takeBack 36 = .ok (.iload_n 1, 1) := by decide +kernel
theorem dX1_takeBack_37 : decode cX1_takeBack 37 = .ok (.isub, 1) := by decide +kernel
theorem dX1_takeBack_38 : decode cX1_takeBack 38 = .ok (.aload_n 0, 1) := by decide +kernel
theorem dX1_takeBack_39 : decode cX1_takeBack 39 = .ok (.getfield 11, 3) := by decide +kernel
theorem dX1_takeBack_42 : decode cX1_takeBack 42 = .ok (.arraylength, 1) := by decide +kernel
theorem dX1_takeBack_43 : decode cX1_takeBack 43 = .ok (.iadd, 1) := by decide +kernel
theorem dX1_takeBack_44 : decode cX1_takeBack 44 = .ok (.putfield 18, 3) := by decide +kernel
theorem dX1_takeBack_47 : decode cX1_takeBack 47 = .ok (.aload_n 0, 1) := by decide +kernel
theorem dX1_takeBack_48 : decode cX1_takeBack 48 = .ok (.dup, 1) := by decide +kernel
theorem dX1_takeBack_49 : decode cX1_takeBack 49 = .ok (.getfield 26, 3) := by decide +kernel
theorem dX1_takeBack_52 : decode cX1_takeBack 52 = .ok (.iload_n 1, 1) := by decide +kernel
theorem dX1_takeBack_53 : decode cX1_takeBack 53 = .ok (.isub, 1) := by decide +kernel
theorem dX1_takeBack_54 : decode cX1_takeBack 54 = .ok (.putfield 26, 3) := by decide +kernel
theorem dX1_takeBack_57 : decode cX1_takeBack 57 = .ok (.aload_n 2, 1) := by decide +kernel
theorem dX1_takeBack_58 : decode cX1_takeBack 58 = .ok (.aload_n 0, 1) := by decide +kernel
theorem dX1_takeBack_59 : decode cX1_takeBack 59 = .ok (.getfield 11, 3) := by decide +kernel
theorem dX1_takeBack_62 : decode cX1_takeBack 62 = .ok (.aload_n 0, 1) := by decide +kernel
theorem dX1_takeBack_63 : decode cX1_takeBack 63 = .ok (.getfield 18, 3) := by decide +kernel
theorem dX1_takeBack_66 : decode cX1_takeBack 66 = .ok (.aaload, 1) := by decide +kernel
theorem dX1_takeBack_67 : decode cX1_takeBack 67 = .ok (.invokevirtual 22, 3) := by decide +kernel
theorem dX1_takeBack_70 : decode cX1_takeBack 70 = .ok (.return_, 1) := by decide +kernel
theorem dX1_forget_0 : decode cX1_forget 0 = .ok (.aload_n 0, 1) := by decide +kernel
theorem dX1_forget_1 : decode cX1_forget 1 = .ok (.iconst 0, 1) := by decide +kernel
theorem dX1_forget_2 : decode cX1_forget 2 = .ok (.putfield 26, 3) := by decide +kernel
theorem dX1_forget_5 : decode cX1_forget 5 = .ok (.return_, 1) := by decide +kernel
theorem dX2_init_0 : decode cX2_init 0 = .ok (.aload_n 0, 1) := by decide +kernel
theorem dX2_init_1 : decode cX2_init 1 = .ok (.invokespecial 1, 3) := by decide +kernel
theorem dX2_init_4 : decode cX2_init 4 = .ok (.aload_n 0, 1) := by decide +kernel
theorem dX2_init_5 : decode cX2_init 5 = .ok (.new 7, 3) := by decide +kernel
theorem dX2_init_8 : decode cX2_init 8 = .ok (.dup, 1) := by decide +kernel
theorem dX2_init_9 : decode cX2_init 9 = .ok (.invokespecial 9, 3) := by decide +kernel
theorem dX2_init_12 : decode cX2_init 12 = .ok (.putfield 10, 3) := by decide +kernel
theorem dX2_init_15 : decode cX2_init 15 = .ok (.return_, 1) := by decide +kernel
theorem dJ6_bitCount_0f7a4_0 : decode cJ6_bitCount_0f7a4 0 = .ok (.iload_n 0, 1) := by decide +kernel
theorem dJ6_bitCount_0f7a4_1 : decode cJ6_bitCount_0f7a4 1 = .ok (.iload_n 0, 1) := by decide +kernel
theorem dJ6_bitCount_0f7a4_2 : decode cJ6_bitCount_0f7a4 2 = .ok (.iconst 1, 1) := by decide +kernel
theorem dJ6_bitCount_0f7a4_3 : decode cJ6_bitCount_0f7a4 3 = .ok (.iushr, 1) := by decide +kernel
theorem dJ6_bitCount_0f7a4_4 : decode cJ6_bitCount_0f7a4 4 = .ok (.ldc_w 265, 3) := by decide +kernel
theorem dJ6_bitCount_0f7a4_7 : decode cJ6_bitCount_0f7a4 7 = .ok (.iand, 1) := by decide +kernel
theorem dJ6_bitCount_0f7a4_8 : decode cJ6_bitCount_0f7a4 8 = .ok (.isub, 1) := by decide +kernel
theorem dJ6_bitCount_0f7a4_9 : decode cJ6_bitCount_0f7a4 9 = .ok (.istore_n 0, 1) := by decide +kernel
theorem dJ6_bitCount_0f7a4_10 : decode cJ6_bitCount_0f7a4 10 = .ok (.iload_n 0, 1) := by decide +kernel
theorem dJ6_bitCount_0f7a4_11 : decode cJ6_bitCount_0f7a4 11 = .ok (.ldc_w 266, 3) := by decide +kernel
theorem dJ6_bitCount_0f7a4_14 : decode cJ6_bitCount_0f7a4 14 = .ok (.iand, 1) := by decide +kernel
theorem dJ6_bitCount_0f7a4_15 : decode cJ6_bitCount_0f7a4 15 = .ok (.iload_n 0, 1) := by decide +kernel
theorem dJ6_bitCount_0f7a4_16 : decode cJ6_bitCount_0f7a4 16 = .ok (.iconst 2, 1) := by decide +kernel
theorem dJ6_bitCount_0f7a4_17 : decode cJ6_bitCount_0f7a4 17 = .ok (.iushr, 1) := by decide +kernel
theorem dJ6_bitCount_0f7a4_18 : decode cJ6_bitCount_0f7a4 18 = .ok (.ldc_w 266, 3) := by decide +kernel
theorem dJ6_bitCount_0f7a4_21 : decode cJ6_bitCount_0f7a4 21 = .ok (.iand, 1) := by decide +kernel
theorem dJ6_bitCount_0f7a4_22 : decode cJ6_bitCount_0f7a4 22 = .ok (.iadd, 1) := by decide +kernel
theorem dJ6_bitCount_0f7a4_23 : decode cJ6_bitCount_0f7a4 23 = .ok (.istore_n 0, 1) := by decide +kernel
theorem dJ6_bitCount_0f7a4_24 : decode cJ6_bitCount_0f7a4 24 = .ok (.iload_n 0, 1) := by decide +kernel
theorem dJ6_bitCount_0f7a4_25 : decode cJ6_bitCount_0f7a4 25 = .ok (.iload_n 0, 1) := by decide +kernel
theorem dJ6_bitCount_0f7a4_26 : decode cJ6_bitCount_0f7a4 26 = .ok (.iconst 4, 1) := by decide +kernel
theorem dJ6_bitCount_0f7a4_27 : decode cJ6_bitCount_0f7a4 27 = .ok (.iushr, 1) := by decide +kernel
theorem dJ6_bitCount_0f7a4_28 : decode cJ6_bitCount_0f7a4 28 = .ok (.iadd, 1) := by decide +kernel
theorem dJ6_bitCount_0f7a4_29 : decode cJ6_bitCount_0f7a4 29 = .ok (.ldc_w 267, 3) := by decide +kernel
theorem dJ6_bitCount_0f7a4_32 : decode cJ6_bitCount_0f7a4 32 = .ok (.iand, 1) := by decide +kernel
theorem dJ6_bitCount_0f7a4_33 : decode cJ6_bitCount_0f7a4 33 = .ok (.istore_n 0, 1) := by decide +kernel
theorem dJ6_bitCount_0f7a4_34 : decode cJ6_bitCount_0f7a4 34 = .ok (.iload_n 0, 1) := by decide +kernel
theorem dJ6_bitCount_0f7a4_35 : decode cJ6_bitCount_0f7a4 35 = .ok (.iload_n 0, 1) := by decide +kernel
theorem dJ6_bitCount_0f7a4_36 : decode cJ6_bitCount_0f7a4 36 = .ok (.bipush 8, 2) := by decide +kernel
theorem dJ6_bitCount_0f7a4_38 : decode cJ6_bitCount_0f7a4 38 = .ok (.iushr, 1) := by decide +kernel
theorem dJ6_bitCount_0f7a4_39 : decode cJ6_bitCount_0f7a4 39 = .ok (.iadd, 1) := by decide +kernel
theorem dJ6_bitCount_0f7a4_40 : decode cJ6_bitCount_0f7a4 40 = .ok (.istore_n 0, 1) := by decide +kernel
theorem dJ6_bitCount_0f7a4_41 : decode cJ6_bitCount_0f7a4 41 = .ok (.iload_n 0, 1) := by decide +kernel
theorem dJ6_bitCount_0f7a4_42 : decode cJ6_bitCount_0f7a4 42 = .ok (.iload_n 0, 1) := by decide +kernel
theorem dJ6_bitCount_0f7a4_43 : decode cJ6_bitCount_0f7a4 43 = .ok (.bipush 16, 2) := by decide +kernel
theorem dJ6_bitCount_0f7a4_45 : decode cJ6_bitCount_0f7a4 45 = .ok (.iushr, 1) := by decide +kernel
theorem dJ6_bitCount_0f7a4_46 : decode cJ6_bitCount_0f7a4 46 = .ok (.iadd, 1) := by decide +kernel
theorem dJ6_bitCount_0f7a4_47 : decode cJ6_bitCount_0f7a4 47 = .ok (.istore_n 0, 1) := by decide +kernel
theorem dJ6_bitCount_0f7a4_48 : decode cJ6_bitCount_0f7a4 48 = .ok (.iload_n 0, 1) := by decide +kernel
theorem dJ6_bitCount_0f7a4_49 : decode cJ6_bitCount_0f7a4 49 = .ok (.bipush 63, 2) := by decide +kernel
theorem dJ6_bitCount_0f7a4_51 : decode cJ6_bitCount_0f7a4 51 = .ok (.iand, 1) := by decide +kernel
theorem dJ6_bitCount_0f7a4_52 : decode cJ6_bitCount_0f7a4 52 = .ok (.ireturn, 1) := by decide +kernel
theorem dJ9_max_7cf53_0 : decode cJ9_max_7cf53 0 = .ok (.iload_n 0, 1) := by decide +kernel
theorem dJ9_max_7cf53_1 : decode cJ9_max_7cf53 1 = .ok (.iload_n 1, 1) := by decide +kernel
theorem dJ9_max_7cf53_2 : decode cJ9_max_7cf53 2 = .ok (.if_icmp .lt 7, 3) := by decide +kernel
theorem dJ9_max_7cf53_5 : decode cJ9_max_7cf53 5 = .ok (.iload_n 0, 1) := by decide +kernel
theorem dJ9_max_7cf53_6 : decode cJ9_max_7cf53 6 = .ok (.goto 4, 3) := by decide +kernel
theorem dJ9_max_7cf53_9 : decode cJ9_max_7cf53 9 = .ok (.iload_n 1, 1) := by decide +kernel
theorem dJ9_max_7cf53_10 : decode cJ9_max_7cf53 10 = .ok (.ireturn, 1) := by decide +kernel
theorem dJ9_min_7cf53_0 : decode cJ9_min_7cf53 0 = .ok (.iload_n 0, 1) := by decide +kernel
theorem dJ9_min_7cf53_1 : decode cJ9_min_7cf53 1 = .ok (.iload_n 1, 1) := by decide +kernel
theorem dJ9_min_7cf53_2 : decode cJ9_min_7cf53 2 = .ok (.if_icmp .gt 7, 3) := by decide +kernel
theorem dJ9_min_7cf53_5 : decode cJ9_min_7cf53 5 = .ok (.iload_n 0, 1) := by decide +kernel
theorem dJ9_min_7cf53_6 : decode cJ9_min_7cf53 6 = .ok (.goto 4, 3) := by decide +kernel
theorem dJ9_min_7cf53_9 : decode cJ9_min_7cf53 9 = .ok (.iload_n 1, 1) := by decide +kernel
theorem dJ9_min_7cf53_10 : decode cJ9_min_7cf53 10 = .ok (.ireturn, 1) := by decide +kernel
theorem dX3_init_0 : decode cX3_init 0 = .ok (.aload_n 0, 1) := by decide +kernel
theorem dX3_init_1 : decode cX3_init 1 = .ok (.invokespecial 3, 3) := by decide +kernel
theorem dX3_init_4 : decode cX3_init 4 = .ok (.aload_n 0, 1) := by decide +kernel
theorem dX3_init_5 : decode cX3_init 5 = .ok (.bipush 9, 2) := by decide +kernel
theorem dX3_init_7 : decode cX3_init 7 = .ok (.newarray .int, 2) := by decide +kernel
theorem dX3_init_9 : decode cX3_init 9 = .ok (.putfield 9, 3) := by decide +kernel
theorem dX3_init_12 : decode cX3_init 12 = .ok (.aload_n 0, 1) := by decide +kernel
theorem dX3_init_13 : decode cX3_init 13 = .ok (.bipush 9, 2) := by decide +kernel
theorem dX3_init_15 : decode cX3_init 15 = .ok (.newarray .int, 2) := by decide +kernel
theorem dX3_init_17 : decode cX3_init 17 = .ok (.putfield 15, 3) := by decide +kernel
theorem dX3_init_20 : decode cX3_init 20 = .ok (.aload_n 0, 1) := by decide +kernel
theorem dX3_init_21 : decode cX3_init 21 = .ok (.bipush 9, 2) := by decide +kernel
theorem dX3_init_23 : decode cX3_init 23 = .ok (.newarray .int, 2) := by decide +kernel
theorem dX3_init_25 : decode cX3_init 25 = .ok (.putfield 18, 3) := by decide +kernel
theorem dX3_init_28 : decode cX3_init 28 = .ok (.aload_n 0, 1) := by decide +kernel
theorem dX3_init_29 : decode cX3_init 29 = .ok (.bipush 9, 2) := by decide +kernel
theorem dX3_init_31 : decode cX3_init 31 = .ok (.newarray .int, 2) := by decide +kernel
theorem dX3_init_33 : decode cX3_init 33 = .ok (.putfield 21, 3) := by decide +kernel
theorem dX3_init_36 : decode cX3_init 36 = .ok (.aload_n 0, 1) := by decide +kernel
theorem dX3_init_37 : decode cX3_init 37 = .ok (.bipush 28, 2) := by decide +kernel
theorem dX3_init_39 : decode cX3_init 39 = .ok (.newarray .int, 2) := by decide +kernel
theorem dX3_init_41 : decode cX3_init 41 = .ok (.putfield 24, 3) := by decide +kernel
theorem dX3_init_44 : decode cX3_init 44 = .ok (.return_, 1) := by decide +kernel
theorem dX3_leastHarmIs_0 : decode cX3_leastHarmIs 0 = .ok (.aload_n 0, 1) := by decide +kernel
theorem dX3_leastHarmIs_1 : decode cX3_leastHarmIs 1 = .ok (.aload_n 1, 1) := by decide +kernel
theorem dX3_leastHarmIs_2 : decode cX3_leastHarmIs 2 = .ok (.iload_n 2, 1) := by decide +kernel
theorem dX3_leastHarmIs_3 : decode cX3_leastHarmIs 3 = .ok (.iconst 1, 1) := by decide +kernel
theorem dX3_leastHarmIs_4 : decode cX3_leastHarmIs 4 = .ok (.invokevirtual 27, 3) := by decide +kernel
theorem dX3_leastHarmIs_7 : decode cX3_leastHarmIs 7 = .ok (.aload_n 0, 1) := by decide +kernel
theorem dX3_leastHarmIs_8 : decode cX3_leastHarmIs 8 = .ok (.getfield 31, 3) := by decide +kernel
theorem dX3_leastHarmIs_11 : decode cX3_leastHarmIs 11 = .ok (.ifCond .eq 15, 3) := by decide +kernel
theorem dX3_leastHarmIs_14 : decode cX3_leastHarmIs 14 = .ok (.aload_n 0, 1) := by decide +kernel
theorem dX3_leastHarmIs_15 : decode cX3_leastHarmIs 15 = .ok (.getfield 35, 3) := by decide +kernel
theorem dX3_leastHarmIs_18 : decode cX3_leastHarmIs 18 = .ok (.iload_n 2, 1) := by decide +kernel
theorem dX3_leastHarmIs_19 : decode cX3_leastHarmIs 19 = .ok (.if_icmp .ne 7, 3) := by decide +kernel
theorem dX3_leastHarmIs_22 : decode cX3_leastHarmIs 22 = .ok (.iconst 1, 1) := by decide +kernel
theorem dX3_leastHarmIs_23 : decode cX3_leastHarmIs 23 = .ok (.goto 4, 3) := by decide +kernel
theorem dX3_leastHarmIs_26 : decode cX3_leastHarmIs 26 = .ok (.iconst 0, 1) := by decide +kernel
theorem dX3_leastHarmIs_27 : decode cX3_leastHarmIs 27 = .ok (.ireturn, 1) := by decide +kernel
theorem dX3_leastHarm_0 : decode cX3_leastHarm 0 = .ok (.aload_n 0, 1) := by decide +kernel
theorem dX3_leastHarm_1 : decode cX3_leastHarm 1 = .ok (.getfield 31, 3) := by decide +kernel
theorem dX3_leastHarm_4 : decode cX3_leastHarm 4 = .ok (.ifCond .eq 10, 3) := by decide +kernel
theorem dX3_leastHarm_7 : decode cX3_leastHarm 7 = .ok (.aload_n 0, 1) := by decide +kernel
theorem dX3_leastHarm_8 : decode cX3_leastHarm 8 = .ok (.getfield 35, 3) := by decide +kernel
theorem dX3_leastHarm_11 : decode cX3_leastHarm 11 = .ok (.goto 4, 3) := by decide +kernel
theorem dX3_leastHarm_14 : decode cX3_leastHarm 14 = .ok (.iconst (-1), 1) := by decide +kernel
theorem dX3_leastHarm_15 : decode cX3_leastHarm 15 = .ok (.ireturn, 1) := by decide +kernel
theorem dX3_earliestEnd_0 : decode cX3_earliestEnd 0 = .ok (.aload_n 0, 1) := by decide +kernel
theorem dX3_earliestEnd_1 : decode cX3_earliestEnd 1 = .ok (.getfield 31, 3) := by decide +kernel
theorem dX3_earliestEnd_4 : decode cX3_earliestEnd 4 = .ok (.ifCond .eq 10, 3) := by decide +kernel
theorem dX3_earliestEnd_7 : decode cX3_earliestEnd 7 = .ok (.aload_n 0, 1) := by decide +kernel
theorem dX3_earliestEnd_8 : decode cX3_earliestEnd 8 = .ok (.getfield 39, 3) := by decide +kernel
theorem dX3_earliestEnd_11 : decode cX3_earliestEnd 11 = .ok (.goto 4, 3) := by decide +kernel
theorem dX3_earliestEnd_14 : decode cX3_earliestEnd 14 = .ok (.iconst (-1), 1) := by decide +kernel
theorem dX3_earliestEnd_15 : decode cX3_earliestEnd 15 = .ok (.ireturn, 1) := by decide +kernel
theorem dX3_cellAt_0 : decode cX3_cellAt 0 = .ok (.aload_n 0, 1) := by decide +kernel
theorem dX3_cellAt_1 : decode cX3_cellAt 1 = .ok (.getfield 31, 3) := by decide +kernel
theorem dX3_cellAt_4 : decode cX3_cellAt 4 = .ok (.ifCond .eq 33, 3) := by decide +kernel
theorem dX3_cellAt_7 : decode cX3_cellAt 7 = .ok (.iload_n 1, 1) := by decide +kernel
theorem dX3_cellAt_8 : decode cX3_cellAt 8 = .ok (.ifCond .lt 29, 3) := by decide +kernel
theorem dX3_cellAt_11 : decode cX3_cellAt 11 = .ok (.iload_n 1, 1) := by decide +kernel
theorem dX3_cellAt_12 : decode cX3_cellAt 12 = .ok (.aload_n 0, 1) := by decide +kernel
theorem dX3_cellAt_13 : decode cX3_cellAt 13 = .ok (.getfield 42, 3) := by decide +kernel
theorem dX3_cellAt_16 : decode cX3_cellAt 16 = .ok (.if_icmp .ge 21, 3) := by decide +kernel
theorem dX3_cellAt_19 : decode cX3_cellAt 19 = .ok (.iload_n 1, 1) := by decide +kernel
theorem dX3_cellAt_20 : decode cX3_cellAt 20 = .ok (.aload_n 0, 1) := by decide +kernel
theorem dX3_cellAt_21 : decode cX3_cellAt 21 = .ok (.getfield 21, 3) := by decide +kernel
theorem dX3_cellAt_24 : decode cX3_cellAt 24 = .ok (.arraylength, 1) := by decide +kernel
theorem dX3_cellAt_25 : decode cX3_cellAt 25 = .ok (.if_icmp .ge 12, 3) := by decide +kernel
theorem dX3_cellAt_28 : decode cX3_cellAt 28 = .ok (.aload_n 0, 1) := by decide +kernel
theorem dX3_cellAt_29 : decode cX3_cellAt 29 = .ok (.getfield 21, 3) := by decide +kernel
theorem dX3_cellAt_32 : decode cX3_cellAt 32 = .ok (.iload_n 1, 1) := by decide +kernel
theorem dX3_cellAt_33 : decode cX3_cellAt 33 = .ok (.iaload, 1) := by decide +kernel
theorem dX3_cellAt_34 : decode cX3_cellAt 34 = .ok (.goto 4, 3) := by decide +kernel
theorem dX3_cellAt_37 : decode cX3_cellAt 37 = .ok (.iconst (-1), 1) := by decide +kernel
theorem dX3_cellAt_38 : decode cX3_cellAt 38 = .ok (.ireturn, 1) := by decide +kernel
theorem dX3_search_0 : decode cX3_search 0 = .ok (.aload_n 0, 1) := by decide +kernel
theorem dX3_search_1 : decode cX3_search 1 = .ok (.aload_n 1, 1) := by decide +kernel
theorem dX3_search_2 : decode cX3_search 2 = .ok (.invokevirtual 45, 3) := by decide +kernel
theorem dX3_search_5 : decode cX3_search 5 = .ok (.aload_n 0, 1) := by decide +kernel
theorem dX3_search_6 : decode cX3_search 6 = .ok (.aload_n 1, 1) := by decide +kernel
theorem dX3_search_7 : decode cX3_search 7 = .ok (.invokevirtual 49, 3) := by decide +kernel
theorem dX3_search_10 : decode cX3_search 10 = .ok (.aload_n 0, 1) := by decide +kernel
theorem dX3_search_11 : decode cX3_search 11 = .ok (.aload_n 1, 1) := by decide +kernel
theorem dX3_search_12 : decode cX3_search 12 = .ok (.invokevirtual 52, 3) := by decide +kernel
theorem dX3_search_15 : decode cX3_search 15 = .ok (.aload_n 0, 1) := by decide +kernel
theorem dX3_search_16 : decode cX3_search 16 = .ok (.iconst 0, 1) := by decide +kernel
theorem dX3_search_17 : decode cX3_search 17 = .ok (.putfield 31, 3) := by decide +kernel
theorem dX3_search_20 : decode cX3_search 20 = .ok (.aload_n 0, 1) := by decide +kernel
theorem dX3_search_21 : decode cX3_search 21 = .ok (.iload_n 2, 1) := by decide +kernel
theorem dX3_search_22 : decode cX3_search 22 = .ok (.putfield 35, 3) := by decide +kernel
theorem dX3_search_25 : decode cX3_search 25 = .ok (.aload_n 0, 1) := by decide +kernel
theorem dX3_search_26 : decode cX3_search 26 = .ok (.ldc 55, 2) := by decide +kernel
theorem dX3_search_28 : decode cX3_search 28 = .ok (.putfield 39, 3) := by decide +kernel
theorem dX3_search_31 : decode cX3_search 31 = .ok (.aload_n 0, 1) := by decide +kernel
theorem dX3_search_32 : decode cX3_search 32 = .ok (.iload_n 3, 1) := by decide +kernel
theorem dX3_search_33 : decode cX3_search 33 = .ok (.putfield 56, 3) := by decide +kernel
theorem dX3_search_36 : decode cX3_search 36 = .ok (.aload_n 0, 1) := by decide +kernel
theorem dX3_search_37 : decode cX3_search 37 = .ok (.getfield 42, 3) := by decide +kernel
theorem dX3_search_40 : decode cX3_search 40 = .ok (.ifCond .eq 16, 3) := by decide +kernel
theorem dX3_search_43 : decode cX3_search 43 = .ok (.aload_n 0, 1) := by decide +kernel
theorem dX3_search_44 : decode cX3_search 44 = .ok (.aload_n 0, 1) := by decide +kernel
theorem dX3_search_45 : decode cX3_search 45 = .ok (.getfield 59, 3) := by decide +kernel
theorem dX3_search_48 : decode cX3_search 48 = .ok (.invokevirtual 62, 3) := by decide +kernel
theorem dX3_search_51 : decode cX3_search 51 = .ok (.ldc 55, 2) := by decide +kernel
theorem dX3_search_53 : decode cX3_search 53 = .ok (.if_icmp .eq 20, 3) := by decide +kernel
theorem dX3_search_56 : decode cX3_search 56 = .ok (.aload_n 0, 1) := by decide +kernel
theorem dX3_search_57 : decode cX3_search 57 = .ok (.iconst 0, 1) := by decide +kernel
theorem dX3_search_58 : decode cX3_search 58 = .ok (.aload_n 1, 1) := by decide +kernel
theorem dX3_search_59 : decode cX3_search 59 = .ok (.getfield 66, 3) := by decide +kernel
theorem dX3_search_62 : decode cX3_search 62 = .ok (.aload_n 0, 1) := by decide +kernel
theorem dX3_search_63 : decode cX3_search 63 = .ok (.invokevirtual 71, 3) := by decide +kernel
theorem dX3_search_66 : decode cX3_search 66 = .ok (.aload_n 1, 1) := by decide +kernel
theorem dX3_search_67 : decode cX3_search 67 = .ok (.invokevirtual 75, 3) := by decide +kernel
theorem dX3_search_70 : decode cX3_search 70 = .ok (.invokevirtual 78, 3) := by decide +kernel
theorem dX3_search_73 : decode cX3_search 73 = .ok (.return_, 1) := by decide +kernel
theorem dX3_readWall_0 : decode cX3_readWall 0 = .ok (.aload_n 0, 1) := by decide +kernel
theorem dX3_readWall_1 : decode cX3_readWall 1 = .ok (.aload_n 1, 1) := by decide +kernel
theorem dX3_readWall_2 : decode cX3_readWall 2 = .ok (.getfield 82, 3) := by decide +kernel
theorem dX3_readWall_5 : decode cX3_readWall 5 = .ok (.putfield 85, 3) := by decide +kernel
theorem dX3_readWall_8 : decode cX3_readWall 8 = .ok (.aload_n 0, 1) := by decide +kernel
theorem dX3_readWall_9 : decode cX3_readWall 9 = .ok (.aload_n 1, 1) := by decide +kernel
theorem dX3_readWall_10 : decode cX3_readWall 10 = .ok (.getfield 86, 3) := by decide +kernel
theorem dX3_readWall_13 : decode cX3_readWall 13 = .ok (.putfield 89, 3) := by decide +kernel
theorem dX3_readWall_16 : decode cX3_readWall 16 = .ok (.aload_n 0, 1) := by decide +kernel
theorem dX3_readWall_17 : decode cX3_readWall 17 = .ok (.aload_n 1, 1) := by decide +kernel
theorem dX3_readWall_18 : decode cX3_readWall 18 = .ok (.getfield 90, 3) := by decide +kernel
theorem dX3_readWall_21 : decode cX3_readWall 21 = .ok (.putfield 93, 3) := by decide +kernel
theorem dX3_readWall_24 : decode cX3_readWall 24 = .ok (.aload_n 0, 1) := by decide +kernel
theorem dX3_readWall_25 : decode cX3_readWall 25 = .ok (.aload_n 1, 1) := by decide +kernel
theorem dX3_readWall_26 : decode cX3_readWall 26 = .ok (.getfield 94, 3) := by decide +kernel
theorem dX3_readWall_29 : decode cX3_readWall 29 = .ok (.putfield 97, 3) := by decide +kernel
theorem dX3_readWall_32 : decode cX3_readWall 32 = .ok (.aload_n 0, 1) := by decide +kernel
theorem dX3_readWall_33 : decode cX3_readWall 33 = .ok (.aload_n 1, 1) := by decide +kernel
theorem dX3_readWall_34 : decode cX3_readWall 34 = .ok (.getfield 98, 3) := by decide +kernel
theorem dX3_readWall_37 : decode cX3_readWall 37 = .ok (.putfield 101, 3) := by decide +kernel
theorem dX3_readWall_40 : decode cX3_readWall 40 = .ok (.aload_n 0, 1) := by decide +kernel
theorem dX3_readWall_41 : decode cX3_readWall 41 = .ok (.aload_n 1, 1) := by decide +kernel
theorem dX3_readWall_42 : decode cX3_readWall 42 = .ok (.getfield 102, 3) := by decide +kernel
theorem dX3_readWall_45 : decode cX3_readWall 45 = .ok (.putfield 105, 3) := by decide +kernel
theorem dX3_readWall_48 : decode cX3_readWall 48 = .ok (.return_, 1) := by decide +kernel
theorem dX3_readCells_0 : decode cX3_readCells 0 = .ok (.aload_n 0, 1) := by decide +kernel
theorem dX3_readCells_1 : decode cX3_readCells 1 = .ok (.iconst 0, 1) := by decide +kernel
theorem dX3_readCells_2 : decode cX3_readCells 2 = .ok (.putfield 42, 3) := by decide +kernel
theorem dX3_readCells_5 : decode cX3_readCells 5 = .ok (.aload_n 0, 1) := by decide +kernel
theorem dX3_readCells_6 : decode cX3_readCells 6 = .ok (.iconst 0, 1) := by decide +kernel
theorem dX3_readCells_7 : decode cX3_readCells 7 = .ok (.putfield 59, 3) := by decide +kernel
theorem dX3_readCells_10 : decode cX3_readCells 10 = .ok (.aload_n 0, 1) := by decide +kernel
theorem dX3_readCells_11 : decode cX3_readCells 11 = .ok (.iconst 3, 1) := by decide +kernel
theorem dX3_readCells_12 : decode cX3_readCells 12 = .ok (.putfield 106, 3) := by decide +kernel
theorem dX3_readCells_15 : decode cX3_readCells 15 = .ok (.iconst 0, 1) := by decide +kernel
theorem dX3_readCells_16 : decode cX3_readCells 16 = .ok (.istore_n 2, 1) := by decide +kernel
theorem dX3_readCells_17 : decode cX3_readCells 17 = .ok (.iload_n 2, 1) := by decide +kernel
theorem dX3_readCells_18 : decode cX3_readCells 18 = .ok (.aload_n 0, 1) := by decide +kernel
theorem dX3_readCells_19 : decode cX3_readCells 19 = .ok (.getfield 93, 3) := by decide +kernel
theorem dX3_readCells_22 : decode cX3_readCells 22 = .ok (.if_icmp .ge 107, 3) := by decide +kernel
theorem dX3_readCells_25 : decode cX3_readCells 25 = .ok (.aload_n 0, 1) := by decide +kernel
theorem dX3_readCells_26 : decode cX3_readCells 26 = .ok (.getfield 9, 3) := by decide +kernel
theorem dX3_readCells_29 : decode cX3_readCells 29 = .ok (.iload_n 2, 1) := by decide +kernel
theorem dX3_readCells_30 : decode cX3_readCells 30 = .ok (.aload_n 1, 1) := by decide +kernel
theorem dX3_readCells_31 : decode cX3_readCells 31 = .ok (.getfield 109, 3) := by decide +kernel
theorem dX3_readCells_34 : decode cX3_readCells 34 = .ok (.iload_n 2, 1) := by decide +kernel
theorem dX3_readCells_35 : decode cX3_readCells 35 = .ok (.iaload, 1) := by decide +kernel
theorem dX3_readCells_36 : decode cX3_readCells 36 = .ok (.iastore, 1) := by decide +kernel
theorem dX3_readCells_37 : decode cX3_readCells 37 = .ok (.aload_n 0, 1) := by decide +kernel
theorem dX3_readCells_38 : decode cX3_readCells 38 = .ok (.dup, 1) := by decide +kernel
theorem dX3_readCells_39 : decode cX3_readCells 39 = .ok (.getfield 59, 3) := by decide +kernel
theorem dX3_readCells_42 : decode cX3_readCells 42 = .ok (.aload_n 0, 1) := by decide +kernel
theorem dX3_readCells_43 : decode cX3_readCells 43 = .ok (.getfield 9, 3) := by decide +kernel
theorem dX3_readCells_46 : decode cX3_readCells 46 = .ok (.iload_n 2, 1) := by decide +kernel
theorem dX3_readCells_47 : decode cX3_readCells 47 = .ok (.iaload, 1) := by decide +kernel
theorem dX3_readCells_48 : decode cX3_readCells 48 = .ok (.iadd, 1) := by decide +kernel
theorem dX3_readCells_49 : decode cX3_readCells 49 = .ok (.putfield 59, 3) := by decide +kernel
theorem dX3_readCells_52 : decode cX3_readCells 52 = .ok (.aload_n 1, 1) := by decide +kernel
theorem dX3_readCells_53 : decode cX3_readCells 53 = .ok (.iload_n 2, 1) := by decide +kernel
theorem dX3_readCells_54 : decode cX3_readCells 54 = .ok (.invokevirtual 110, 3) := by decide +kernel
theorem dX3_readCells_57 : decode cX3_readCells 57 = .ok (.ifCond .eq 18, 3) := by decide +kernel
theorem dX3_readCells_60 : decode cX3_readCells 60 = .ok (.aload_n 0, 1) := by decide +kernel
theorem dX3_readCells_61 : decode cX3_readCells 61 = .ok (.getfield 15, 3) := by decide +kernel
theorem dX3_readCells_64 : decode cX3_readCells 64 = .ok (.iload_n 2, 1) := by decide +kernel
theorem dX3_readCells_65 : decode cX3_readCells 65 = .ok (.aload_n 1, 1) := by decide +kernel
theorem dX3_readCells_66 : decode cX3_readCells 66 = .ok (.getfield 114, 3) := by decide +kernel
theorem dX3_readCells_69 : decode cX3_readCells 69 = .ok (.iload_n 2, 1) := by decide +kernel
theorem dX3_readCells_70 : decode cX3_readCells 70 = .ok (.iaload, 1) := by decide +kernel
theorem dX3_readCells_71 : decode cX3_readCells 71 = .ok (.iastore, 1) := by decide +kernel
theorem dX3_readCells_72 : decode cX3_readCells 72 = .ok (.goto 21, 3) := by decide +kernel
theorem dX3_readCells_75 : decode cX3_readCells 75 = .ok (.aload_n 0, 1) := by decide +kernel
theorem dX3_readCells_76 : decode cX3_readCells 76 = .ok (.getfield 15, 3) := by decide +kernel
theorem dX3_readCells_79 : decode cX3_readCells 79 = .ok (.iload_n 2, 1) := by decide +kernel
theorem dX3_readCells_80 : decode cX3_readCells 80 = .ok (.ldc 55, 2) := by decide +kernel
theorem dX3_readCells_82 : decode cX3_readCells 82 = .ok (.iastore, 1) := by decide +kernel
theorem dX3_readCells_83 : decode cX3_readCells 83 = .ok (.aload_n 0, 1) := by decide +kernel
theorem dX3_readCells_84 : decode cX3_readCells 84 = .ok (.dup, 1) := by decide +kernel
theorem dX3_readCells_85 : decode cX3_readCells 85 = .ok (.getfield 42, 3) := by decide +kernel
theorem dX3_readCells_88 : decode cX3_readCells 88 = .ok (.iconst 1, 1) := by decide +kernel
theorem dX3_readCells_89 : decode cX3_readCells 89 = .ok (.iadd, 1) := by decide +kernel
theorem dX3_readCells_90 : decode cX3_readCells 90 = .ok (.putfield 42, 3) := by decide +kernel
theorem dX3_readCells_93 : decode cX3_readCells 93 = .ok (.iload_n 2, 1) := by decide +kernel
theorem dX3_readCells_94 : decode cX3_readCells 94 = .ok (.aload_n 0, 1) := by decide +kernel
theorem dX3_readCells_95 : decode cX3_readCells 95 = .ok (.getfield 85, 3) := by decide +kernel
theorem dX3_readCells_98 : decode cX3_readCells 98 = .ok (.iadd, 1) := by decide +kernel
theorem dX3_readCells_99 : decode cX3_readCells 99 = .ok (.aload_n 0, 1) := by decide +kernel
theorem dX3_readCells_100 : decode cX3_readCells 100 = .ok (.getfield 93, 3) := by decide +kernel
theorem dX3_readCells_103 : decode cX3_readCells 103 = .ok (.if_icmp .lt 20, 3) := by decide +kernel
theorem dX3_readCells_106 : decode cX3_readCells 106 = .ok (.aload_n 0, 1) := by decide +kernel
theorem dX3_readCells_107 : decode cX3_readCells 107 = .ok (.aload_n 0, 1) := by decide +kernel
theorem dX3_readCells_108 : decode cX3_readCells 108 = .ok (.getfield 106, 3) := by decide +kernel
theorem dX3_readCells_111 : decode cX3_readCells 111 = .ok (.aload_n 0, 1) := by decide +kernel
theorem dX3_readCells_112 : decode cX3_readCells 112 = .ok (.getfield 9, 3) := by decide +kernel
theorem dX3_readCells_115 : decode cX3_readCells 115 = .ok (.iload_n 2, 1) := by decide +kernel
theorem dX3_readCells_116 : decode cX3_readCells 116 = .ok (.iaload, 1) := by decide +kernel
theorem dX3_readCells_117 : decode cX3_readCells 117 = .ok (.invokestatic 115, 3) := by decide +kernel
theorem dX3_readCells_120 : decode cX3_readCells 120 = .ok (.putfield 106, 3) := by decide +kernel
theorem dX3_readCells_123 : decode cX3_readCells 123 = .ok (.iinc 2 1, 3) := by decide +kernel
theorem dX3_readCells_126 : decode cX3_readCells 126 = .ok (.goto (-109), 3) := by decide +kernel
theorem dX3_readCells_129 : decode cX3_readCells 129 = .ok (.return_, 1) := by decide +kernel
theorem dX3_readArrivals_0 : decode cX3_readArrivals 0 = .ok (.aload_n 0, 1) := by decide +kernel
theorem dX3_readArrivals_1 : decode cX3_readArrivals 1 = .ok (.getfield 24, 3) := by decide +kernel
theorem dX3_readArrivals_4 : decode cX3_readArrivals 4 = .ok (.ldc 55, 2) := by decide +kernel
theorem dX3_readArrivals_6 : decode cX3_readArrivals 6 = .ok (.invokestatic 121, 3) := by decide +kernel
theorem dX3_readArrivals_9 : decode cX3_readArrivals 9 = .ok (.iconst 0, 1) := by decide +kernel
theorem dX3_readArrivals_10 : decode cX3_readArrivals 10 = .ok (.istore_n 2, 1) := by decide +kernel
theorem dX3_readArrivals_11 : decode cX3_readArrivals 11 = .ok (.iload_n 2, 1) := by decide +kernel
theorem dX3_readArrivals_12 : decode cX3_readArrivals 12 = .ok (.aload_n 1, 1) := by decide +kernel
theorem dX3_readArrivals_13 : decode cX3_readArrivals 13 = .ok (.getfield 125, 3) := by decide +kernel
theorem dX3_readArrivals_16 : decode cX3_readArrivals 16 = .ok (.if_icmp .ge 67, 3) := by decide +kernel
theorem dX3_readArrivals_19 : decode cX3_readArrivals 19 = .ok (.aload_n 1, 1) := by decide +kernel
theorem dX3_readArrivals_20 : decode cX3_readArrivals 20 = .ok (.getfield 128, 3) := by decide +kernel
theorem dX3_readArrivals_23 : decode cX3_readArrivals 23 = .ok (.iload_n 2, 1) := by decide +kernel
theorem dX3_readArrivals_24 : decode cX3_readArrivals 24 = .ok (.iaload, 1) := by decide +kernel
theorem dX3_readArrivals_25 : decode cX3_readArrivals 25 = .ok (.istore_n 3, 1) := by decide +kernel
theorem dX3_readArrivals_26 : decode cX3_readArrivals 26 = .ok (.aload_n 1, 1) := by decide +kernel
theorem dX3_readArrivals_27 : decode cX3_readArrivals 27 = .ok (.iload_n 3, 1) := by decide +kernel
theorem dX3_readArrivals_28 : decode cX3_readArrivals 28 = .ok (.invokevirtual 131, 3) := by decide +kernel
theorem dX3_readArrivals_31 : decode cX3_readArrivals 31 = .ok (.istore 4, 2) := by decide +kernel
theorem dX3_readArrivals_33 : decode cX3_readArrivals 33 = .ok (.iconst 0, 1) := by decide +kernel
theorem dX3_readArrivals_34 : decode cX3_readArrivals 34 = .ok (.istore 5, 2) := by decide +kernel
theorem dX3_readArrivals_36 : decode cX3_readArrivals 36 = .ok (.iload 5, 2) := by decide +kernel
theorem dX3_readArrivals_38 : decode cX3_readArrivals 38 = .ok (.iload 4, 2) := by decide +kernel
theorem dX3_readArrivals_40 : decode cX3_readArrivals 40 = .ok (.if_icmp .gt 37, 3) := by decide +kernel
theorem dX3_readArrivals_43 : decode cX3_readArrivals 43 = .ok (.iload 5, 2) := by decide +kernel
theorem dX3_readArrivals_45 : decode cX3_readArrivals 45 = .ok (.aload_n 0, 1) := by decide +kernel
theorem dX3_readArrivals_46 : decode cX3_readArrivals 46 = .ok (.getfield 24, 3) := by decide +kernel
theorem dX3_readArrivals_49 : decode cX3_readArrivals 49 = .ok (.arraylength, 1) := by decide +kernel
theorem dX3_readArrivals_50 : decode cX3_readArrivals 50 = .ok (.if_icmp .ge 27, 3) := by decide +kernel
theorem dX3_readArrivals_53 : decode cX3_readArrivals 53 = .ok (.aload_n 0, 1) := by decide +kernel
theorem dX3_readArrivals_54 : decode cX3_readArrivals 54 = .ok (.getfield 24, 3) := by decide +kernel
theorem dX3_readArrivals_57 : decode cX3_readArrivals 57 = .ok (.iload 5, 2) := by decide +kernel
theorem dX3_readArrivals_59 : decode cX3_readArrivals 59 = .ok (.aload_n 0, 1) := by decide +kernel
theorem dX3_readArrivals_60 : decode cX3_readArrivals 60 = .ok (.getfield 24, 3) := by decide +kernel
theorem dX3_readArrivals_63 : decode cX3_readArrivals 63 = .ok (.iload 5, 2) := by decide +kernel
theorem dX3_readArrivals_65 : decode cX3_readArrivals 65 = .ok (.iaload, 1) := by decide +kernel
theorem dX3_readArrivals_66 : decode cX3_readArrivals 66 = .ok (.iload_n 3, 1) := by decide +kernel
theorem dX3_readArrivals_67 : decode cX3_readArrivals 67 = .ok (.invokestatic 115, 3) := by decide +kernel
theorem dX3_readArrivals_70 : decode cX3_readArrivals 70 = .ok (.iastore, 1) := by decide +kernel
theorem dX3_readArrivals_71 : decode cX3_readArrivals 71 = .ok (.iinc 5 1, 3) := by decide +kernel
theorem dX3_readArrivals_74 : decode cX3_readArrivals 74 = .ok (.goto (-38), 3) := by decide +kernel
theorem dX3_readArrivals_77 : decode cX3_readArrivals 77 = .ok (.iinc 2 1, 3) := by decide +kernel
theorem dX3_readArrivals_80 : decode cX3_readArrivals 80 = .ok (.goto (-69), 3) := by decide +kernel
theorem dX3_readArrivals_83 : decode cX3_readArrivals 83 = .ok (.return_, 1) := by decide +kernel
theorem dX3_arrivalOf_0 : decode cX3_arrivalOf 0 = .ok (.iload_n 1, 1) := by decide +kernel
theorem dX3_arrivalOf_1 : decode cX3_arrivalOf 1 = .ok (.ifCond .lt 12, 3) := by decide +kernel
theorem dX3_arrivalOf_4 : decode cX3_arrivalOf 4 = .ok (.iload_n 1, 1) := by decide +kernel
theorem dX3_arrivalOf_5 : decode cX3_arrivalOf 5 = .ok (.aload_n 0, 1) := by decide +kernel
theorem dX3_arrivalOf_6 : decode cX3_arrivalOf 6 = .ok (.getfield 24, 3) := by decide +kernel
theorem dX3_arrivalOf_9 : decode cX3_arrivalOf 9 = .ok (.arraylength, 1) := by decide +kernel
theorem dX3_arrivalOf_10 : decode cX3_arrivalOf 10 = .ok (.if_icmp .lt 8, 3) := by decide +kernel
theorem dX3_arrivalOf_13 : decode cX3_arrivalOf 13 = .ok (.ldc 55, 2) := by decide +kernel
theorem dX3_arrivalOf_15 : decode cX3_arrivalOf 15 = .ok (.goto 9, 3) := by decide +kernel
theorem dX3_arrivalOf_18 : decode cX3_arrivalOf 18 = .ok (.aload_n 0, 1) := by decide +kernel
theorem dX3_arrivalOf_19 : decode cX3_arrivalOf 19 = .ok (.getfield 24, 3) := by decide +kernel
theorem dX3_arrivalOf_22 : decode cX3_arrivalOf 22 = .ok (.iload_n 1, 1) := by decide +kernel
theorem dX3_arrivalOf_23 : decode cX3_arrivalOf 23 = .ok (.iaload, 1) := by decide +kernel
theorem dX3_arrivalOf_24 : decode cX3_arrivalOf 24 = .ok (.ireturn, 1) := by decide +kernel
theorem dX3_harmCovered_0 : decode cX3_harmCovered 0 = .ok (.iconst 0, 1) := by decide +kernel
theorem dX3_harmCovered_1 : decode cX3_harmCovered 1 = .ok (.istore_n 1, 1) := by decide +kernel
theorem dX3_harmCovered_2 : decode cX3_harmCovered 2 = .ok (.iconst 0, 1) := by decide +kernel
theorem dX3_harmCovered_3 : decode cX3_harmCovered 3 = .ok (.istore_n 2, 1) := by decide +kernel
theorem dX3_harmCovered_4 : decode cX3_harmCovered 4 = .ok (.iload_n 2, 1) := by decide +kernel
theorem dX3_harmCovered_5 : decode cX3_harmCovered 5 = .ok (.aload_n 0, 1) := by decide +kernel
theorem dX3_harmCovered_6 : decode cX3_harmCovered 6 = .ok (.getfield 93, 3) := by decide +kernel
theorem dX3_harmCovered_9 : decode cX3_harmCovered 9 = .ok (.if_icmp .ge 41, 3) := by decide +kernel
theorem dX3_harmCovered_12 : decode cX3_harmCovered 12 = .ok (.aload_n 0, 1) := by decide +kernel
theorem dX3_harmCovered_13 : decode cX3_harmCovered 13 = .ok (.getfield 15, 3) := by decide +kernel
theorem dX3_harmCovered_16 : decode cX3_harmCovered 16 = .ok (.iload_n 2, 1) := by decide +kernel
theorem dX3_harmCovered_17 : decode cX3_harmCovered 17 = .ok (.iaload, 1) := by decide +kernel
theorem dX3_harmCovered_18 : decode cX3_harmCovered 18 = .ok (.ldc 55, 2) := by decide +kernel
theorem dX3_harmCovered_20 : decode cX3_harmCovered 20 = .ok (.if_icmp .eq 24, 3) := by decide +kernel
theorem dX3_harmCovered_23 : decode cX3_harmCovered 23 = .ok (.iload_n 1, 1) := by decide +kernel
theorem dX3_harmCovered_24 : decode cX3_harmCovered 24 = .ok (.aload_n 0, 1) := by decide +kernel
theorem dX3_harmCovered_25 : decode cX3_harmCovered 25 = .ok (.iload_n 2, 1) := by decide +kernel
theorem dX3_harmCovered_26 : decode cX3_harmCovered 26 = .ok (.aload_n 0, 1) := by decide +kernel
theorem dX3_harmCovered_27 : decode cX3_harmCovered 27 = .ok (.getfield 15, 3) := by decide +kernel
theorem dX3_harmCovered_30 : decode cX3_harmCovered 30 = .ok (.iload_n 2, 1) := by decide +kernel
theorem dX3_harmCovered_31 : decode cX3_harmCovered 31 = .ok (.iaload, 1) := by decide +kernel
theorem dX3_harmCovered_32 : decode cX3_harmCovered 32 = .ok (.aload_n 0, 1) := by decide +kernel
theorem dX3_harmCovered_33 : decode cX3_harmCovered 33 = .ok (.getfield 9, 3) := by decide +kernel
theorem dX3_harmCovered_36 : decode cX3_harmCovered 36 = .ok (.iload_n 2, 1) := by decide +kernel
theorem dX3_harmCovered_37 : decode cX3_harmCovered 37 = .ok (.iaload, 1) := by decide +kernel
theorem dX3_harmCovered_38 : decode cX3_harmCovered 38 = .ok (.isub, 1) := by decide +kernel
theorem dX3_harmCovered_39 : decode cX3_harmCovered 39 = .ok (.invokevirtual 134, 3) := by decide +kernel
theorem dX3_harmCovered_42 : decode cX3_harmCovered 42 = .ok (.iadd, 1) := by decide +kernel
theorem dX3_harmCovered_43 : decode cX3_harmCovered 43 = .ok (.istore_n 1, 1) := by decide +kernel
theorem dX3_harmCovered_44 : decode cX3_harmCovered 44 = .ok (.iinc 2 1, 3) := by decide +kernel
theorem dX3_harmCovered_47 : decode cX3_harmCovered 47 = .ok (.goto (-43), 3) := by decide +kernel
theorem dX3_harmCovered_50 : decode cX3_harmCovered 50 = .ok (.iload_n 1, 1) := by decide +kernel
theorem dX3_harmCovered_51 : decode cX3_harmCovered 51 = .ok (.ireturn, 1) := by decide +kernel
theorem dX3_extend_0 : decode cX3_extend 0 = .ok (.iload_n 1, 1) := by decide +kernel
theorem dX3_extend_1 : decode cX3_extend 1 = .ok (.aload_n 0, 1) := by decide +kernel
theorem dX3_extend_2 : decode cX3_extend 2 = .ok (.getfield 42, 3) := by decide +kernel
theorem dX3_extend_5 : decode cX3_extend 5 = .ok (.if_icmp .ge 12, 3) := by decide +kernel
theorem dX3_extend_8 : decode cX3_extend 8 = .ok (.iload_n 1, 1) := by decide +kernel
theorem dX3_extend_9 : decode cX3_extend 9 = .ok (.aload_n 0, 1) := by decide +kernel
theorem dX3_extend_10 : decode cX3_extend 10 = .ok (.getfield 18, 3) := by decide +kernel
theorem dX3_extend_13 : decode cX3_extend 13 = .ok (.arraylength, 1) := by decide +kernel
theorem dX3_extend_14 : decode cX3_extend 14 = .ok (.if_icmp .lt 10, 3) := by decide +kernel
theorem dX3_extend_17 : decode cX3_extend 17 = .ok (.aload_n 0, 1) := by decide +kernel
theorem dX3_extend_18 : decode cX3_extend 18 = .ok (.iload_n 2, 1) := by decide +kernel
theorem dX3_extend_19 : decode cX3_extend 19 = .ok (.iload_n 3, 1) := by decide +kernel
theorem dX3_extend_20 : decode cX3_extend 20 = .ok (.invokevirtual 137, 3) := by decide +kernel
theorem dX3_extend_23 : decode cX3_extend 23 = .ok (.return_, 1) := by decide +kernel
theorem dX3_extend_24 : decode cX3_extend 24 = .ok (.iconst 0, 1) := by decide +kernel
theorem dX3_extend_25 : decode cX3_extend 25 = .ok (.istore 5, 2) := by decide +kernel
theorem dX3_extend_27 : decode cX3_extend 27 = .ok (.iload 5, 2) := by decide +kernel
theorem dX3_extend_29 : decode cX3_extend 29 = .ok (.aload_n 0, 1) := by decide +kernel
theorem dX3_extend_30 : decode cX3_extend 30 = .ok (.getfield 93, 3) := by decide +kernel
theorem dX3_extend_33 : decode cX3_extend 33 = .ok (.if_icmp .ge 134, 3) := by decide +kernel
theorem dX3_extend_36 : decode cX3_extend 36 = .ok (.aload_n 0, 1) := by decide +kernel
theorem dX3_extend_37 : decode cX3_extend 37 = .ok (.iload 5, 2) := by decide +kernel
theorem dX3_extend_39 : decode cX3_extend 39 = .ok (.invokevirtual 141, 3) := by decide +kernel
theorem dX3_extend_42 : decode cX3_extend 42 = .ok (.ifCond .ne 6, 3) := by decide +kernel
theorem dX3_extend_45 : decode cX3_extend 45 = .ok (.goto 116, 3) := by decide +kernel
theorem dX3_extend_48 : decode cX3_extend 48 = .ok (.iload 4, 2) := by decide +kernel
theorem dX3_extend_50 : decode cX3_extend 50 = .ok (.aload_n 0, 1) := by decide +kernel
theorem dX3_extend_51 : decode cX3_extend 51 = .ok (.getfield 9, 3) := by decide +kernel
theorem dX3_extend_54 : decode cX3_extend 54 = .ok (.iload 5, 2) := by decide +kernel
theorem dX3_extend_56 : decode cX3_extend 56 = .ok (.iaload, 1) := by decide +kernel
theorem dX3_extend_57 : decode cX3_extend 57 = .ok (.iadd, 1) := by decide +kernel
theorem dX3_extend_58 : decode cX3_extend 58 = .ok (.istore 6, 2) := by decide +kernel
theorem dX3_extend_60 : decode cX3_extend 60 = .ok (.iload_n 2, 1) := by decide +kernel
theorem dX3_extend_61 : decode cX3_extend 61 = .ok (.aload_n 0, 1) := by decide +kernel
theorem dX3_extend_62 : decode cX3_extend 62 = .ok (.iload 6, 2) := by decide +kernel
theorem dX3_extend_64 : decode cX3_extend 64 = .ok (.invokevirtual 62, 3) := by decide +kernel
theorem dX3_extend_67 : decode cX3_extend 67 = .ok (.invokestatic 144, 3) := by decide +kernel
theorem dX3_extend_70 : decode cX3_extend 70 = .ok (.istore 7, 2) := by decide +kernel
theorem dX3_extend_72 : decode cX3_extend 72 = .ok (.iload_n 3, 1) := by decide +kernel
theorem dX3_extend_73 : decode cX3_extend 73 = .ok (.aload_n 0, 1) := by decide +kernel
theorem dX3_extend_74 : decode cX3_extend 74 = .ok (.iload 5, 2) := by decide +kernel
theorem dX3_extend_76 : decode cX3_extend 76 = .ok (.iload 7, 2) := by decide +kernel
theorem dX3_extend_78 : decode cX3_extend 78 = .ok (.invokevirtual 134, 3) := by decide +kernel
theorem dX3_extend_81 : decode cX3_extend 81 = .ok (.iadd, 1) := by decide +kernel
theorem dX3_extend_82 : decode cX3_extend 82 = .ok (.istore 8, 2) := by decide +kernel
theorem dX3_extend_84 : decode cX3_extend 84 = .ok (.iload 7, 2) := by decide +kernel
theorem dX3_extend_86 : decode cX3_extend 86 = .ok (.aload_n 0, 1) := by decide +kernel
theorem dX3_extend_87 : decode cX3_extend 87 = .ok (.getfield 9, 3) := by decide +kernel
theorem dX3_extend_90 : decode cX3_extend 90 = .ok (.iload 5, 2) := by decide +kernel
theorem dX3_extend_92 : decode cX3_extend 92 = .ok (.iaload, 1) := by decide +kernel
theorem dX3_extend_93 : decode cX3_extend 93 = .ok (.iadd, 1) := by decide +kernel
theorem dX3_extend_94 : decode cX3_extend 94 = .ok (.istore 9, 2) := by decide +kernel
theorem dX3_extend_96 : decode cX3_extend 96 = .ok (.aload_n 0, 1) := by decide +kernel
theorem dX3_extend_97 : decode cX3_extend 97 = .ok (.getfield 18, 3) := by decide +kernel
theorem dX3_extend_100 : decode cX3_extend 100 = .ok (.iload_n 1, 1) := by decide +kernel
theorem dX3_extend_101 : decode cX3_extend 101 = .ok (.iload 5, 2) := by decide +kernel
theorem dX3_extend_103 : decode cX3_extend 103 = .ok (.iastore, 1) := by decide +kernel
theorem dX3_extend_104 : decode cX3_extend 104 = .ok (.aload_n 0, 1) := by decide +kernel
theorem dX3_extend_105 : decode cX3_extend 105 = .ok (.getfield 15, 3) := by decide +kernel
theorem dX3_extend_108 : decode cX3_extend 108 = .ok (.iload 5, 2) := by decide +kernel
theorem dX3_extend_110 : decode cX3_extend 110 = .ok (.iload 9, 2) := by decide +kernel
theorem dX3_extend_112 : decode cX3_extend 112 = .ok (.iastore, 1) := by decide +kernel
theorem dX3_extend_113 : decode cX3_extend 113 = .ok (.aload_n 0, 1) := by decide +kernel
theorem dX3_extend_114 : decode cX3_extend 114 = .ok (.iload 8, 2) := by decide +kernel
theorem dX3_extend_116 : decode cX3_extend 116 = .ok (.aload_n 0, 1) := by decide +kernel
theorem dX3_extend_117 : decode cX3_extend 117 = .ok (.iload 9, 2) := by decide +kernel
theorem dX3_extend_119 : decode cX3_extend 119 = .ok (.iload 6, 2) := by decide +kernel
theorem dX3_extend_121 : decode cX3_extend 121 = .ok (.invokevirtual 147, 3) := by decide +kernel
theorem dX3_extend_124 : decode cX3_extend 124 = .ok (.iadd, 1) := by decide +kernel
theorem dX3_extend_125 : decode cX3_extend 125 = .ok (.aload_n 0, 1) := by decide +kernel
theorem dX3_extend_126 : decode cX3_extend 126 = .ok (.iload 9, 2) := by decide +kernel
theorem dX3_extend_128 : decode cX3_extend 128 = .ok (.iload 6, 2) := by decide +kernel
theorem dX3_extend_130 : decode cX3_extend 130 = .ok (.invokevirtual 150, 3) := by decide +kernel
theorem dX3_extend_133 : decode cX3_extend 133 = .ok (.invokevirtual 153, 3) := by decide +kernel
theorem dX3_extend_136 : decode cX3_extend 136 = .ok (.ifCond .eq 16, 3) := by decide +kernel
theorem dX3_extend_139 : decode cX3_extend 139 = .ok (.aload_n 0, 1) := by decide +kernel
theorem dX3_extend_140 : decode cX3_extend 140 = .ok (.iload_n 1, 1) := by decide +kernel
theorem dX3_extend_141 : decode cX3_extend 141 = .ok (.iconst 1, 1) := by decide +kernel
theorem dX3_extend_142 : decode cX3_extend 142 = .ok (.iadd, 1) := by decide +kernel
theorem dX3_extend_143 : decode cX3_extend 143 = .ok (.iload 9, 2) := by decide +kernel
theorem dX3_extend_145 : decode cX3_extend 145 = .ok (.iload 8, 2) := by decide +kernel
theorem dX3_extend_147 : decode cX3_extend 147 = .ok (.iload 6, 2) := by decide +kernel
theorem dX3_extend_149 : decode cX3_extend 149 = .ok (.invokevirtual 78, 3) := by decide +kernel
theorem dX3_extend_152 : decode cX3_extend 152 = .ok (.aload_n 0, 1) := by decide +kernel
theorem dX3_extend_153 : decode cX3_extend 153 = .ok (.getfield 15, 3) := by decide +kernel
theorem dX3_extend_156 : decode cX3_extend 156 = .ok (.iload 5, 2) := by decide +kernel
theorem dX3_extend_158 : decode cX3_extend 158 = .ok (.ldc 55, 2) := by decide +kernel
theorem dX3_extend_160 : decode cX3_extend 160 = .ok (.iastore, 1) := by decide +kernel
theorem dX3_extend_161 : decode cX3_extend 161 = .ok (.iinc 5 1, 3) := by decide +kernel
theorem dX3_extend_164 : decode cX3_extend 164 = .ok (.goto (-137), 3) := by decide +kernel
theorem dX3_extend_167 : decode cX3_extend 167 = .ok (.return_, 1) := by decide +kernel
theorem dX3_isNext_0 : decode cX3_isNext 0 = .ok (.aload_n 0, 1) := by decide +kernel
theorem dX3_isNext_1 : decode cX3_isNext 1 = .ok (.getfield 15, 3) := by decide +kernel
theorem dX3_isNext_4 : decode cX3_isNext 4 = .ok (.iload_n 1, 1) := by decide +kernel
theorem dX3_isNext_5 : decode cX3_isNext 5 = .ok (.iaload, 1) := by decide +kernel
theorem dX3_isNext_6 : decode cX3_isNext 6 = .ok (.ldc 55, 2) := by decide +kernel
theorem dX3_isNext_8 : decode cX3_isNext 8 = .ok (.if_icmp .ne 31, 3) := by decide +kernel
theorem dX3_isNext_11 : decode cX3_isNext 11 = .ok (.iload_n 1, 1) := by decide +kernel
theorem dX3_isNext_12 : decode cX3_isNext 12 = .ok (.aload_n 0, 1) := by decide +kernel
theorem dX3_isNext_13 : decode cX3_isNext 13 = .ok (.getfield 85, 3) := by decide +kernel
theorem dX3_isNext_16 : decode cX3_isNext 16 = .ok (.if_icmp .lt 19, 3) := by decide +kernel
theorem dX3_isNext_19 : decode cX3_isNext 19 = .ok (.aload_n 0, 1) := by decide +kernel
theorem dX3_isNext_20 : decode cX3_isNext 20 = .ok (.getfield 15, 3) := by decide +kernel
theorem dX3_isNext_23 : decode cX3_isNext 23 = .ok (.iload_n 1, 1) := by decide +kernel
theorem dX3_isNext_24 : decode cX3_isNext 24 = .ok (.aload_n 0, 1) := by decide +kernel
theorem dX3_isNext_25 : decode cX3_isNext 25 = .ok (.getfield 85, 3) := by decide +kernel
theorem dX3_isNext_28 : decode cX3_isNext 28 = .ok (.isub, 1) := by decide +kernel
theorem dX3_isNext_29 : decode cX3_isNext 29 = .ok (.iaload, 1) := by decide +kernel
theorem dX3_isNext_30 : decode cX3_isNext 30 = .ok (.ldc 55, 2) := by decide +kernel
theorem dX3_isNext_32 : decode cX3_isNext 32 = .ok (.if_icmp .eq 7, 3) := by decide +kernel
theorem dX3_isNext_35 : decode cX3_isNext 35 = .ok (.iconst 1, 1) := by decide +kernel
theorem dX3_isNext_36 : decode cX3_isNext 36 = .ok (.goto 4, 3) := by decide +kernel
theorem dX3_isNext_39 : decode cX3_isNext 39 = .ok (.iconst 0, 1) := by decide +kernel
theorem dX3_isNext_40 : decode cX3_isNext 40 = .ok (.ireturn, 1) := by decide +kernel
theorem dX3_take_0 : decode cX3_take 0 = .ok (.aload_n 0, 1) := by decide +kernel
theorem dX3_take_1 : decode cX3_take 1 = .ok (.iload_n 2, 1) := by decide +kernel
theorem dX3_take_2 : decode cX3_take 2 = .ok (.iload_n 1, 1) := by decide +kernel
theorem dX3_take_3 : decode cX3_take 3 = .ok (.invokevirtual 153, 3) := by decide +kernel
theorem dX3_take_6 : decode cX3_take 6 = .ok (.ifCond .ne 4, 3) := by decide +kernel
theorem dX3_take_9 : decode cX3_take 9 = .ok (.return_, 1) := by decide +kernel
theorem dX3_take_10 : decode cX3_take 10 = .ok (.aload_n 0, 1) := by decide +kernel
theorem dX3_take_11 : decode cX3_take 11 = .ok (.iconst 1, 1) := by decide +kernel
theorem dX3_take_12 : decode cX3_take 12 = .ok (.putfield 31, 3) := by decide +kernel
theorem dX3_take_15 : decode cX3_take 15 = .ok (.aload_n 0, 1) := by decide +kernel
theorem dX3_take_16 : decode cX3_take 16 = .ok (.aload_n 0, 1) := by decide +kernel
theorem dX3_take_17 : decode cX3_take 17 = .ok (.getfield 56, 3) := by decide +kernel
theorem dX3_take_20 : decode cX3_take 20 = .ok (.ifCond .eq 15, 3) := by decide +kernel
theorem dX3_take_23 : decode cX3_take 23 = .ok (.iload_n 2, 1) := by decide +kernel
theorem dX3_take_24 : decode cX3_take 24 = .ok (.aload_n 0, 1) := by decide +kernel
theorem dX3_take_25 : decode cX3_take 25 = .ok (.getfield 35, 3) := by decide +kernel
theorem dX3_take_28 : decode cX3_take 28 = .ok (.if_icmp .ge 7, 3) := by decide +kernel
theorem dX3_take_31 : decode cX3_take 31 = .ok (.iconst (-1), 1) := by decide +kernel
theorem dX3_take_32 : decode cX3_take 32 = .ok (.goto 4, 3) := by decide +kernel
theorem dX3_take_35 : decode cX3_take 35 = .ok (.iload_n 2, 1) := by decide +kernel
theorem dX3_take_36 : decode cX3_take 36 = .ok (.putfield 35, 3) := by decide +kernel
theorem dX3_take_39 : decode cX3_take 39 = .ok (.aload_n 0, 1) := by decide +kernel
theorem dX3_take_40 : decode cX3_take 40 = .ok (.iload_n 1, 1) := by decide +kernel
theorem dX3_take_41 : decode cX3_take 41 = .ok (.putfield 39, 3) := by decide +kernel
theorem dX3_take_44 : decode cX3_take 44 = .ok (.aload_n 0, 1) := by decide +kernel
theorem dX3_take_45 : decode cX3_take 45 = .ok (.getfield 18, 3) := by decide +kernel
theorem dX3_take_48 : decode cX3_take 48 = .ok (.aload_n 0, 1) := by decide +kernel
theorem dX3_take_49 : decode cX3_take 49 = .ok (.getfield 21, 3) := by decide +kernel
theorem dX3_take_52 : decode cX3_take 52 = .ok (.invokestatic 157, 3) := by decide +kernel
theorem dX3_take_55 : decode cX3_take 55 = .ok (.return_, 1) := by decide +kernel
theorem dX3_mayBeBetter_0 : decode cX3_mayBeBetter 0 = .ok (.iload_n 1, 1) := by decide +kernel
theorem dX3_mayBeBetter_1 : decode cX3_mayBeBetter 1 = .ok (.aload_n 0, 1) := by decide +kernel
theorem dX3_mayBeBetter_2 : decode cX3_mayBeBetter 2 = .ok (.getfield 35, 3) := by decide +kernel
theorem dX3_mayBeBetter_5 : decode cX3_mayBeBetter 5 = .ok (.if_icmp .eq 17, 3) := by decide +kernel
theorem dX3_mayBeBetter_8 : decode cX3_mayBeBetter 8 = .ok (.iload_n 1, 1) := by decide +kernel
theorem dX3_mayBeBetter_9 : decode cX3_mayBeBetter 9 = .ok (.aload_n 0, 1) := by decide +kernel
theorem dX3_mayBeBetter_10 : decode cX3_mayBeBetter 10 = .ok (.getfield 35, 3) := by decide +kernel
theorem dX3_mayBeBetter_13 : decode cX3_mayBeBetter 13 = .ok (.if_icmp .ge 7, 3) := by decide +kernel
theorem dX3_mayBeBetter_16 : decode cX3_mayBeBetter 16 = .ok (.iconst 1, 1) := by decide +kernel
theorem dX3_mayBeBetter_17 : decode cX3_mayBeBetter 17 = .ok (.goto 4, 3) := by decide +kernel
theorem dX3_mayBeBetter_20 : decode cX3_mayBeBetter 20 = .ok (.iconst 0, 1) := by decide +kernel
theorem dX3_mayBeBetter_21 : decode cX3_mayBeBetter 21 = .ok (.ireturn, 1) := by decide +kernel
theorem dX3_mayBeBetter_22 : decode cX3_mayBeBetter 22 = .ok (.iload_n 2, 1) := by decide +kernel
theorem dX3_mayBeBetter_23 : decode cX3_mayBeBetter 23 = .ok (.aload_n 0, 1) := by decide +kernel
theorem dX3_mayBeBetter_24 : decode cX3_mayBeBetter 24 = .ok (.getfield 39, 3) := by decide +kernel
theorem dX3_mayBeBetter_27 : decode cX3_mayBeBetter 27 = .ok (.if_icmp .ge 21, 3) := by decide +kernel
theorem dX3_mayBeBetter_30 : decode cX3_mayBeBetter 30 = .ok (.aload_n 0, 1) := by decide +kernel
theorem dX3_mayBeBetter_31 : decode cX3_mayBeBetter 31 = .ok (.getfield 31, 3) := by decide +kernel
theorem dX3_mayBeBetter_34 : decode cX3_mayBeBetter 34 = .ok (.ifCond .eq 10, 3) := by decide +kernel
theorem dX3_mayBeBetter_37 : decode cX3_mayBeBetter 37 = .ok (.aload_n 0, 1) := by decide +kernel
theorem dX3_mayBeBetter_38 : decode cX3_mayBeBetter 38 = .ok (.getfield 56, 3) := by decide +kernel
theorem dX3_mayBeBetter_41 : decode cX3_mayBeBetter 41 = .ok (.ifCond .ne 7, 3) := by decide +kernel
theorem dX3_mayBeBetter_44 : decode cX3_mayBeBetter 44 = .ok (.iconst 1, 1) := by decide +kernel
theorem dX3_mayBeBetter_45 : decode cX3_mayBeBetter 45 = .ok (.goto 4, 3) := by decide +kernel
theorem dX3_mayBeBetter_48 : decode cX3_mayBeBetter 48 = .ok (.iconst 0, 1) := by decide +kernel
theorem dX3_mayBeBetter_49 : decode cX3_mayBeBetter 49 = .ok (.ireturn, 1) := by decide +kernel
theorem dX3_leastEnd_0 : decode cX3_leastEnd 0 = .ok (.aload_n 0, 1) := by decide +kernel
theorem dX3_leastEnd_1 : decode cX3_leastEnd 1 = .ok (.getfield 59, 3) := by decide +kernel
theorem dX3_leastEnd_4 : decode cX3_leastEnd 4 = .ok (.iload_n 2, 1) := by decide +kernel
theorem dX3_leastEnd_5 : decode cX3_leastEnd 5 = .ok (.isub, 1) := by decide +kernel
theorem dX3_leastEnd_6 : decode cX3_leastEnd 6 = .ok (.istore_n 3, 1) := by decide +kernel
theorem dX3_leastEnd_7 : decode cX3_leastEnd 7 = .ok (.iload_n 3, 1) := by decide +kernel
theorem dX3_leastEnd_8 : decode cX3_leastEnd 8 = .ok (.ifCond .ne 7, 3) := by decide +kernel
theorem dX3_leastEnd_11 : decode cX3_leastEnd 11 = .ok (.iload_n 1, 1) := by decide +kernel
theorem dX3_leastEnd_12 : decode cX3_leastEnd 12 = .ok (.goto 22, 3) := by decide +kernel
theorem dX3_leastEnd_15 : decode cX3_leastEnd 15 = .ok (.iload_n 1, 1) := by decide +kernel
theorem dX3_leastEnd_16 : decode cX3_leastEnd 16 = .ok (.iload_n 3, 1) := by decide +kernel
theorem dX3_leastEnd_17 : decode cX3_leastEnd 17 = .ok (.iadd, 1) := by decide +kernel
theorem dX3_leastEnd_18 : decode cX3_leastEnd 18 = .ok (.aload_n 0, 1) := by decide +kernel
theorem dX3_leastEnd_19 : decode cX3_leastEnd 19 = .ok (.aload_n 0, 1) := by decide +kernel
theorem dX3_leastEnd_20 : decode cX3_leastEnd 20 = .ok (.getfield 59, 3) := by decide +kernel
theorem dX3_leastEnd_23 : decode cX3_leastEnd 23 = .ok (.invokevirtual 62, 3) := by decide +kernel
theorem dX3_leastEnd_26 : decode cX3_leastEnd 26 = .ok (.aload_n 0, 1) := by decide +kernel
theorem dX3_leastEnd_27 : decode cX3_leastEnd 27 = .ok (.getfield 106, 3) := by decide +kernel
theorem dX3_leastEnd_30 : decode cX3_leastEnd 30 = .ok (.iadd, 1) := by decide +kernel
theorem dX3_leastEnd_31 : decode cX3_leastEnd 31 = .ok (.invokestatic 144, 3) := by decide +kernel
theorem dX3_leastEnd_34 : decode cX3_leastEnd 34 = .ok (.ireturn, 1) := by decide +kernel
theorem dX3_harmToCome_0 : decode cX3_harmToCome 0 = .ok (.iconst 0, 1) := by decide +kernel
theorem dX3_harmToCome_1 : decode cX3_harmToCome 1 = .ok (.istore_n 3, 1) := by decide +kernel
theorem dX3_harmToCome_2 : decode cX3_harmToCome 2 = .ok (.iconst 0, 1) := by decide +kernel
theorem dX3_harmToCome_3 : decode cX3_harmToCome 3 = .ok (.istore 4, 2) := by decide +kernel
theorem dX3_harmToCome_5 : decode cX3_harmToCome 5 = .ok (.iload 4, 2) := by decide +kernel
theorem dX3_harmToCome_7 : decode cX3_harmToCome 7 = .ok (.aload_n 0, 1) := by decide +kernel
theorem dX3_harmToCome_8 : decode cX3_harmToCome 8 = .ok (.getfield 85, 3) := by decide +kernel
theorem dX3_harmToCome_11 : decode cX3_harmToCome 11 = .ok (.if_icmp .ge 117, 3) := by decide +kernel
theorem dX3_harmToCome_14 : decode cX3_harmToCome 14 = .ok (.iload_n 1, 1) := by decide +kernel
theorem dX3_harmToCome_15 : decode cX3_harmToCome 15 = .ok (.istore 5, 2) := by decide +kernel
theorem dX3_harmToCome_17 : decode cX3_harmToCome 17 = .ok (.iload_n 2, 1) := by decide +kernel
theorem dX3_harmToCome_18 : decode cX3_harmToCome 18 = .ok (.istore 6, 2) := by decide +kernel
theorem dX3_harmToCome_20 : decode cX3_harmToCome 20 = .ok (.iconst 0, 1) := by decide +kernel
theorem dX3_harmToCome_21 : decode cX3_harmToCome 21 = .ok (.istore 7, 2) := by decide +kernel
theorem dX3_harmToCome_23 : decode cX3_harmToCome 23 = .ok (.iload 7, 2) := by decide +kernel
theorem dX3_harmToCome_25 : decode cX3_harmToCome 25 = .ok (.aload_n 0, 1) := by decide +kernel
theorem dX3_harmToCome_26 : decode cX3_harmToCome 26 = .ok (.getfield 89, 3) := by decide +kernel
theorem dX3_harmToCome_29 : decode cX3_harmToCome 29 = .ok (.if_icmp .ge 93, 3) := by decide +kernel
theorem dX3_harmToCome_32 : decode cX3_harmToCome 32 = .ok (.iload 7, 2) := by decide +kernel
theorem dX3_harmToCome_34 : decode cX3_harmToCome 34 = .ok (.aload_n 0, 1) := by decide +kernel
theorem dX3_harmToCome_35 : decode cX3_harmToCome 35 = .ok (.getfield 85, 3) := by decide +kernel
theorem dX3_harmToCome_38 : decode cX3_harmToCome 38 = .ok (.imul, 1) := by decide +kernel
theorem dX3_harmToCome_39 : decode cX3_harmToCome 39 = .ok (.iload 4, 2) := by decide +kernel
theorem dX3_harmToCome_41 : decode cX3_harmToCome 41 = .ok (.iadd, 1) := by decide +kernel
theorem dX3_harmToCome_42 : decode cX3_harmToCome 42 = .ok (.istore 8, 2) := by decide +kernel
theorem dX3_harmToCome_44 : decode cX3_harmToCome 44 = .ok (.iload 8, 2) := by decide +kernel
theorem dX3_harmToCome_46 : decode cX3_harmToCome 46 = .ok (.aload_n 0, 1) := by decide +kernel
theorem dX3_harmToCome_47 : decode cX3_harmToCome 47 = .ok (.getfield 93, 3) := by decide +kernel
theorem dX3_harmToCome_50 : decode cX3_harmToCome 50 = .ok (.if_icmp .ge 66, 3) := by decide +kernel
theorem dX3_harmToCome_53 : decode cX3_harmToCome 53 = .ok (.aload_n 0, 1) := by decide +kernel
theorem dX3_harmToCome_54 : decode cX3_harmToCome 54 = .ok (.getfield 15, 3) := by decide +kernel
theorem dX3_harmToCome_57 : decode cX3_harmToCome 57 = .ok (.iload 8, 2) := by decide +kernel
theorem dX3_harmToCome_59 : decode cX3_harmToCome 59 = .ok (.iaload, 1) := by decide +kernel
theorem dX3_harmToCome_60 : decode cX3_harmToCome 60 = .ok (.ldc 55, 2) := by decide +kernel
theorem dX3_harmToCome_62 : decode cX3_harmToCome 62 = .ok (.if_icmp .eq 6, 3) := by decide +kernel
theorem dX3_harmToCome_65 : decode cX3_harmToCome 65 = .ok (.goto 51, 3) := by decide +kernel
theorem dX3_harmToCome_68 : decode cX3_harmToCome 68 = .ok (.iload 6, 2) := by decide +kernel
theorem dX3_harmToCome_70 : decode cX3_harmToCome 70 = .ok (.aload_n 0, 1) := by decide +kernel
theorem dX3_harmToCome_71 : decode cX3_harmToCome 71 = .ok (.getfield 9, 3) := by decide +kernel
theorem dX3_harmToCome_74 : decode cX3_harmToCome 74 = .ok (.iload 8, 2) := by decide +kernel
theorem dX3_harmToCome_76 : decode cX3_harmToCome 76 = .ok (.iaload, 1) := by decide +kernel
theorem dX3_harmToCome_77 : decode cX3_harmToCome 77 = .ok (.iadd, 1) := by decide +kernel
theorem dX3_harmToCome_78 : decode cX3_harmToCome 78 = .ok (.istore 6, 2) := by decide +kernel
theorem dX3_harmToCome_80 : decode cX3_harmToCome 80 = .ok (.iload 5, 2) := by decide +kernel
theorem dX3_harmToCome_82 : decode cX3_harmToCome 82 = .ok (.aload_n 0, 1) := by decide +kernel
theorem dX3_harmToCome_83 : decode cX3_harmToCome 83 = .ok (.iload 6, 2) := by decide +kernel
theorem dX3_harmToCome_85 : decode cX3_harmToCome 85 = .ok (.invokevirtual 62, 3) := by decide +kernel
theorem dX3_harmToCome_88 : decode cX3_harmToCome 88 = .ok (.invokestatic 144, 3) := by decide +kernel
theorem dX3_harmToCome_91 : decode cX3_harmToCome 91 = .ok (.istore 5, 2) := by decide +kernel
theorem dX3_harmToCome_93 : decode cX3_harmToCome 93 = .ok (.iload_n 3, 1) := by decide +kernel
theorem dX3_harmToCome_94 : decode cX3_harmToCome 94 = .ok (.aload_n 0, 1) := by decide +kernel
theorem dX3_harmToCome_95 : decode cX3_harmToCome 95 = .ok (.iload 8, 2) := by decide +kernel
theorem dX3_harmToCome_97 : decode cX3_harmToCome 97 = .ok (.iload 5, 2) := by decide +kernel
theorem dX3_harmToCome_99 : decode cX3_harmToCome 99 = .ok (.invokevirtual 134, 3) := by decide +kernel
theorem dX3_harmToCome_102 : decode cX3_harmToCome 102 = .ok (.iadd, 1) := by decide +kernel
theorem dX3_harmToCome_103 : decode cX3_harmToCome 103 = .ok (.istore_n 3, 1) := by decide +kernel
theorem dX3_harmToCome_104 : decode cX3_harmToCome 104 = .ok (.iload 5, 2) := by decide +kernel
theorem dX3_harmToCome_106 : decode cX3_harmToCome 106 = .ok (.aload_n 0, 1) := by decide +kernel
theorem dX3_harmToCome_107 : decode cX3_harmToCome 107 = .ok (.getfield 9, 3) := by decide +kernel
theorem dX3_harmToCome_110 : decode cX3_harmToCome 110 = .ok (.iload 8, 2) := by decide +kernel
theorem dX3_harmToCome_112 : decode cX3_harmToCome 112 = .ok (.iaload, 1) := by decide +kernel
theorem dX3_harmToCome_113 : decode cX3_harmToCome 113 = .ok (.iadd, 1) := by decide +kernel
theorem dX3_harmToCome_114 : decode cX3_harmToCome 114 = .ok (.istore 5, 2) := by decide +kernel
theorem dX3_harmToCome_116 : decode cX3_harmToCome 116 = .ok (.iinc 7 1, 3) := by decide +kernel
theorem dX3_harmToCome_119 : decode cX3_harmToCome 119 = .ok (.goto (-96), 3) := by decide +kernel
theorem dX3_harmToCome_122 : decode cX3_harmToCome 122 = .ok (.iinc 4 1, 3) := by decide +kernel
theorem dX3_harmToCome_125 : decode cX3_harmToCome 125 = .ok (.goto (-120), 3) := by decide +kernel
theorem dX3_harmToCome_128 : decode cX3_harmToCome 128 = .ok (.iload_n 3, 1) := by decide +kernel
theorem dX3_harmToCome_129 : decode cX3_harmToCome 129 = .ok (.ireturn, 1) := by decide +kernel
theorem dX3_harmCovering_0 : decode cX3_harmCovering 0 = .ok (.aload_n 0, 1) := by decide +kernel
theorem dX3_harmCovering_1 : decode cX3_harmCovering 1 = .ok (.getfield 85, 3) := by decide +kernel
theorem dX3_harmCovering_4 : decode cX3_harmCovering 4 = .ok (.iconst 1, 1) := by decide +kernel
theorem dX3_harmCovering_5 : decode cX3_harmCovering 5 = .ok (.if_icmp .ge 5, 3) := by decide +kernel
theorem dX3_harmCovering_8 : decode cX3_harmCovering 8 = .ok (.iconst 0, 1) := by decide +kernel
theorem dX3_harmCovering_9 : decode cX3_harmCovering 9 = .ok (.ireturn, 1) := by decide +kernel
theorem dX3_harmCovering_10 : decode cX3_harmCovering 10 = .ok (.iload_n 1, 1) := by decide +kernel
theorem dX3_harmCovering_11 : decode cX3_harmCovering 11 = .ok (.aload_n 0, 1) := by decide +kernel
theorem dX3_harmCovering_12 : decode cX3_harmCovering 12 = .ok (.getfield 85, 3) := by decide +kernel
theorem dX3_harmCovering_15 : decode cX3_harmCovering 15 = .ok (.irem, 1) := by decide +kernel
theorem dX3_harmCovering_16 : decode cX3_harmCovering 16 = .ok (.istore_n 3, 1) := by decide +kernel
theorem dX3_harmCovering_17 : decode cX3_harmCovering 17 = .ok (.iload_n 2, 1) := by decide +kernel
theorem dX3_harmCovering_18 : decode cX3_harmCovering 18 = .ok (.aload_n 0, 1) := by decide +kernel
theorem dX3_harmCovering_19 : decode cX3_harmCovering 19 = .ok (.getfield 97, 3) := by decide +kernel
theorem dX3_harmCovering_22 : decode cX3_harmCovering 22 = .ok (.isub, 1) := by decide +kernel
theorem dX3_harmCovering_23 : decode cX3_harmCovering 23 = .ok (.istore 4, 2) := by decide +kernel
theorem dX3_harmCovering_25 : decode cX3_harmCovering 25 = .ok (.iconst 0, 1) := by decide +kernel
theorem dX3_harmCovering_26 : decode cX3_harmCovering 26 = .ok (.istore 5, 2) := by decide +kernel
theorem dX3_harmCovering_28 : decode cX3_harmCovering 28 = .ok (.iload_n 1, 1) := by decide +kernel
theorem dX3_harmCovering_29 : decode cX3_harmCovering 29 = .ok (.aload_n 0, 1) := by decide +kernel
theorem dX3_harmCovering_30 : decode cX3_harmCovering 30 = .ok (.getfield 85, 3) := by decide +kernel
theorem dX3_harmCovering_33 : decode cX3_harmCovering 33 = .ok (.if_icmp .lt 28, 3) := by decide +kernel
theorem dX3_harmCovering_36 : decode cX3_harmCovering 36 = .ok (.aload_n 0, 1) := by decide +kernel
theorem dX3_harmCovering_37 : decode cX3_harmCovering 37 = .ok (.getfield 15, 3) := by decide +kernel
theorem dX3_harmCovering_40 : decode cX3_harmCovering 40 = .ok (.iload_n 1, 1) := by decide +kernel
theorem dX3_harmCovering_41 : decode cX3_harmCovering 41 = .ok (.aload_n 0, 1) := by decide +kernel
theorem dX3_harmCovering_42 : decode cX3_harmCovering 42 = .ok (.getfield 85, 3) := by decide +kernel
theorem dX3_harmCovering_45 : decode cX3_harmCovering 45 = .ok (.isub, 1) := by decide +kernel
theorem dX3_harmCovering_46 : decode cX3_harmCovering 46 = .ok (.iaload, 1) := by decide +kernel
theorem dX3_harmCovering_47 : decode cX3_harmCovering 47 = .ok (.iload 4, 2) := by decide +kernel
theorem dX3_harmCovering_49 : decode cX3_harmCovering 49 = .ok (.if_icmp .ge 12, 3) := by decide +kernel
theorem dX3_harmCovering_52 : decode cX3_harmCovering 52 = .ok (.iload 5, 2) := by decide +kernel
theorem dX3_harmCovering_54 : decode cX3_harmCovering 54 = .ok (.aload_n 0, 1) := by decide +kernel
theorem dX3_harmCovering_55 : decode cX3_harmCovering 55 = .ok (.getfield 101, 3) := by decide +kernel
theorem dX3_harmCovering_58 : decode cX3_harmCovering 58 = .ok (.iadd, 1) := by decide +kernel
theorem dX3_harmCovering_59 : decode cX3_harmCovering 59 = .ok (.istore 5, 2) := by decide +kernel
theorem dX3_harmCovering_61 : decode cX3_harmCovering 61 = .ok (.iload_n 3, 1) := by decide +kernel
theorem dX3_harmCovering_62 : decode cX3_harmCovering 62 = .ok (.ifCond .le 25, 3) := by decide +kernel
theorem dX3_harmCovering_65 : decode cX3_harmCovering 65 = .ok (.aload_n 0, 1) := by decide +kernel
theorem dX3_harmCovering_66 : decode cX3_harmCovering 66 = .ok (.getfield 15, 3) := by decide +kernel
theorem dX3_harmCovering_69 : decode cX3_harmCovering 69 = .ok (.iload_n 1, 1) := by decide +kernel
theorem dX3_harmCovering_70 : decode cX3_harmCovering 70 = .ok (.iconst 1, 1) := by decide +kernel
theorem dX3_harmCovering_71 : decode cX3_harmCovering 71 = .ok (.isub, 1) := by decide +kernel
theorem dX3_harmCovering_72 : decode cX3_harmCovering 72 = .ok (.iaload, 1) := by decide +kernel
theorem dX3_harmCovering_73 : decode cX3_harmCovering 73 = .ok (.iload 4, 2) := by decide +kernel
theorem dX3_harmCovering_75 : decode cX3_harmCovering 75 = .ok (.if_icmp .ge 12, 3) := by decide +kernel
theorem dX3_harmCovering_78 : decode cX3_harmCovering 78 = .ok (.iload 5, 2) := by decide +kernel
theorem dX3_harmCovering_80 : decode cX3_harmCovering 80 = .ok (.aload_n 0, 1) := by decide +kernel
theorem dX3_harmCovering_81 : decode cX3_harmCovering 81 = .ok (.getfield 105, 3) := by decide +kernel
theorem dX3_harmCovering_84 : decode cX3_harmCovering 84 = .ok (.iadd, 1) := by decide +kernel
theorem dX3_harmCovering_85 : decode cX3_harmCovering 85 = .ok (.istore 5, 2) := by decide +kernel
theorem dX3_harmCovering_87 : decode cX3_harmCovering 87 = .ok (.iload_n 3, 1) := by decide +kernel
theorem dX3_harmCovering_88 : decode cX3_harmCovering 88 = .ok (.iconst 1, 1) := by decide +kernel
theorem dX3_harmCovering_89 : decode cX3_harmCovering 89 = .ok (.iadd, 1) := by decide +kernel
theorem dX3_harmCovering_90 : decode cX3_harmCovering 90 = .ok (.aload_n 0, 1) := by decide +kernel
theorem dX3_harmCovering_91 : decode cX3_harmCovering 91 = .ok (.getfield 85, 3) := by decide +kernel
theorem dX3_harmCovering_94 : decode cX3_harmCovering 94 = .ok (.if_icmp .ge 25, 3) := by decide +kernel
theorem dX3_harmCovering_97 : decode cX3_harmCovering 97 = .ok (.aload_n 0, 1) := by decide +kernel
theorem dX3_harmCovering_98 : decode cX3_harmCovering 98 = .ok (.getfield 15, 3) := by decide +kernel
theorem dX3_harmCovering_101 : decode cX3_harmCovering 101 = .ok (.iload_n 1, 1) := by decide +kernel
theorem dX3_harmCovering_102 : decode cX3_harmCovering 102 = .ok (.iconst 1, 1) := by decide +kernel
theorem dX3_harmCovering_103 : decode cX3_harmCovering 103 = .ok (.iadd, 1) := by decide +kernel
theorem dX3_harmCovering_104 : decode cX3_harmCovering 104 = .ok (.iaload, 1) := by decide +kernel
theorem dX3_harmCovering_105 : decode cX3_harmCovering 105 = .ok (.iload 4, 2) := by decide +kernel
theorem dX3_harmCovering_107 : decode cX3_harmCovering 107 = .ok (.if_icmp .ge 12, 3) := by decide +kernel
theorem dX3_harmCovering_110 : decode cX3_harmCovering 110 = .ok (.iload 5, 2) := by decide +kernel
theorem dX3_harmCovering_112 : decode cX3_harmCovering 112 = .ok (.aload_n 0, 1) := by decide +kernel
theorem dX3_harmCovering_113 : decode cX3_harmCovering 113 = .ok (.getfield 105, 3) := by decide +kernel
theorem dX3_harmCovering_116 : decode cX3_harmCovering 116 = .ok (.iadd, 1) := by decide +kernel
theorem dX3_harmCovering_117 : decode cX3_harmCovering 117 = .ok (.istore 5, 2) := by decide +kernel
theorem dX3_harmCovering_119 : decode cX3_harmCovering 119 = .ok (.iload 5, 2) := by decide +kernel
theorem dX3_harmCovering_121 : decode cX3_harmCovering 121 = .ok (.ireturn, 1) := by decide +kernel
end
section
theorem dX4_init_0 : decode cX4_init 0 = .ok (.aload_n 0, 1) := by decide +kernel
theorem dX4_init_1 : decode cX4_init 1 = .ok (.invokespecial 3, 3) := by decide +kernel
theorem dX4_init_4 : decode cX4_init 4 = .ok (.aload_n 0, 1) := by decide +kernel
theorem dX4_init_5 : decode cX4_init 5 = .ok (.bipush 6, 2) := by decide +kernel
theorem dX4_init_7 : decode cX4_init 7 = .ok (.putfield 9, 3) := by decide +kernel
theorem dX4_init_10 : decode cX4_init 10 = .ok (.aload_n 0, 1) := by decide +kernel
theorem dX4_init_11 : decode cX4_init 11 = .ok (.iconst 3, 1) := by decide +kernel
theorem dX4_init_12 : decode cX4_init 12 = .ok (.putfield 15, 3) := by decide +kernel
theorem dX4_init_15 : decode cX4_init 15 = .ok (.aload_n 0, 1) := by decide +kernel
theorem dX4_init_16 : decode cX4_init 16 = .ok (.iconst 1, 1) := by decide +kernel
theorem dX4_init_17 : decode cX4_init 17 = .ok (.putfield 18, 3) := by decide +kernel
theorem dX4_init_20 : decode cX4_init 20 = .ok (.aload_n 0, 1) := by decide +kernel
theorem dX4_init_21 : decode cX4_init 21 = .ok (.bipush 9, 2) := by decide +kernel
theorem dX4_init_23 : decode cX4_init 23 = .ok (.newarray .int, 2) := by decide +kernel
theorem dX4_init_25 : decode cX4_init 25 = .ok (.putfield 21, 3) := by decide +kernel
theorem dX4_init_28 : decode cX4_init 28 = .ok (.aload_n 0, 1) := by decide +kernel
theorem dX4_init_29 : decode cX4_init 29 = .ok (.bipush 9, 2) := by decide +kernel
theorem dX4_init_31 : decode cX4_init 31 = .ok (.newarray .int, 2) := by decide +kernel
theorem dX4_init_33 : decode cX4_init 33 = .ok (.putfield 25, 3) := by decide +kernel
theorem dX4_init_36 : decode cX4_init 36 = .ok (.aload_n 0, 1) := by decide +kernel
theorem dX4_init_37 : decode cX4_init 37 = .ok (.bipush 9, 2) := by decide +kernel
theorem dX4_init_39 : decode cX4_init 39 = .ok (.newarray .int, 2) := by decide +kernel
theorem dX4_init_41 : decode cX4_init 41 = .ok (.putfield 28, 3) := by decide +kernel
theorem dX4_init_44 : decode cX4_init 44 = .ok (.aload_n 0, 1) := by decide +kernel
theorem dX4_init_45 : decode cX4_init 45 = .ok (.bipush 9, 2) := by decide +kernel
theorem dX4_init_47 : decode cX4_init 47 = .ok (.newarray .int, 2) := by decide +kernel
theorem dX4_init_49 : decode cX4_init 49 = .ok (.putfield 31, 3) := by decide +kernel
theorem dX4_init_52 : decode cX4_init 52 = .ok (.aload_n 0, 1) := by decide +kernel
theorem dX4_init_53 : decode cX4_init 53 = .ok (.bipush 9, 2) := by decide +kernel
theorem dX4_init_55 : decode cX4_init 55 = .ok (.newarray .int, 2) := by decide +kernel
theorem dX4_init_57 : decode cX4_init 57 = .ok (.putfield 34, 3) := by decide +kernel
theorem dX4_init_60 : decode cX4_init 60 = .ok (.aload_n 0, 1) := by decide +kernel
theorem dX4_init_61 : decode cX4_init 61 = .ok (.iconst 3, 1) := by decide +kernel
theorem dX4_init_62 : decode cX4_init 62 = .ok (.iconst 2, 1) := by decide +kernel
theorem dX4_init_63 : decode cX4_init 63 = .ok (.invokevirtual 37, 3) := by decide +kernel
theorem dX4_init_66 : decode cX4_init 66 = .ok (.return_, 1) := by decide +kernel
theorem dX4_raise_0 : decode cX4_raise 0 = .ok (.aload_n 0, 1) := by decide +kernel
theorem dX4_raise_1 : decode cX4_raise 1 = .ok (.iload_n 1, 1) := by decide +kernel
theorem dX4_raise_2 : decode cX4_raise 2 = .ok (.putfield 41, 3) := by decide +kernel
theorem dX4_raise_5 : decode cX4_raise 5 = .ok (.aload_n 0, 1) := by decide +kernel
theorem dX4_raise_6 : decode cX4_raise 6 = .ok (.iload_n 2, 1) := by decide +kernel
theorem dX4_raise_7 : decode cX4_raise 7 = .ok (.putfield 44, 3) := by decide +kernel
theorem dX4_raise_10 : decode cX4_raise 10 = .ok (.aload_n 0, 1) := by decide +kernel
theorem dX4_raise_11 : decode cX4_raise 11 = .ok (.iload_n 1, 1) := by decide +kernel
theorem dX4_raise_12 : decode cX4_raise 12 = .ok (.iload_n 2, 1) := by decide +kernel
theorem dX4_raise_13 : decode cX4_raise 13 = .ok (.imul, 1) := by decide +kernel
theorem dX4_raise_14 : decode cX4_raise 14 = .ok (.bipush 9, 2) := by decide +kernel
theorem dX4_raise_16 : decode cX4_raise 16 = .ok (.invokestatic 47, 3) := by decide +kernel
theorem dX4_raise_19 : decode cX4_raise 19 = .ok (.putfield 53, 3) := by decide +kernel
theorem dX4_raise_22 : decode cX4_raise 22 = .ok (.aload_n 0, 1) := by decide +kernel
theorem dX4_raise_23 : decode cX4_raise 23 = .ok (.iconst 0, 1) := by decide +kernel
theorem dX4_raise_24 : decode cX4_raise 24 = .ok (.putfield 56, 3) := by decide +kernel
theorem dX4_raise_27 : decode cX4_raise 27 = .ok (.aload_n 0, 1) := by decide +kernel
theorem dX4_raise_28 : decode cX4_raise 28 = .ok (.iconst 0, 1) := by decide +kernel
theorem dX4_raise_29 : decode cX4_raise 29 = .ok (.putfield 59, 3) := by decide +kernel
theorem dX4_raise_32 : decode cX4_raise 32 = .ok (.aload_n 0, 1) := by decide +kernel
theorem dX4_raise_33 : decode cX4_raise 33 = .ok (.getfield 21, 3) := by decide +kernel
theorem dX4_raise_36 : decode cX4_raise 36 = .ok (.iconst 1, 1) := by decide +kernel
theorem dX4_raise_37 : decode cX4_raise 37 = .ok (.invokestatic 62, 3) := by decide +kernel
theorem dX4_raise_40 : decode cX4_raise 40 = .ok (.aload_n 0, 1) := by decide +kernel
theorem dX4_raise_41 : decode cX4_raise 41 = .ok (.getfield 25, 3) := by decide +kernel
theorem dX4_raise_44 : decode cX4_raise 44 = .ok (.iconst (-1), 1) := by decide +kernel
theorem dX4_raise_45 : decode cX4_raise 45 = .ok (.invokestatic 62, 3) := by decide +kernel
theorem dX4_raise_48 : decode cX4_raise 48 = .ok (.aload_n 0, 1) := by decide +kernel
theorem dX4_raise_49 : decode cX4_raise 49 = .ok (.getfield 28, 3) := by decide +kernel
theorem dX4_raise_52 : decode cX4_raise 52 = .ok (.iconst (-1), 1) := by decide +kernel
theorem dX4_raise_53 : decode cX4_raise 53 = .ok (.invokestatic 62, 3) := by decide +kernel
theorem dX4_raise_56 : decode cX4_raise 56 = .ok (.return_, 1) := by decide +kernel
theorem dX4_copyFrom_0 : decode cX4_copyFrom 0 = .ok (.aload_n 0, 1) := by decide +kernel
theorem dX4_copyFrom_1 : decode cX4_copyFrom 1 = .ok (.aload_n 1, 1) := by decide +kernel
theorem dX4_copyFrom_2 : decode cX4_copyFrom 2 = .ok (.getfield 41, 3) := by decide +kernel
theorem dX4_copyFrom_5 : decode cX4_copyFrom 5 = .ok (.putfield 41, 3) := by decide +kernel
theorem dX4_copyFrom_8 : decode cX4_copyFrom 8 = .ok (.aload_n 0, 1) := by decide +kernel
theorem dX4_copyFrom_9 : decode cX4_copyFrom 9 = .ok (.aload_n 1, 1) := by decide +kernel
theorem dX4_copyFrom_10 : decode cX4_copyFrom 10 = .ok (.getfield 44, 3) := by decide +kernel
theorem dX4_copyFrom_13 : decode cX4_copyFrom 13 = .ok (.putfield 44, 3) := by decide +kernel
theorem dX4_copyFrom_16 : decode cX4_copyFrom 16 = .ok (.aload_n 0, 1) := by decide +kernel
theorem dX4_copyFrom_17 : decode cX4_copyFrom 17 = .ok (.aload_n 1, 1) := by decide +kernel
theorem dX4_copyFrom_18 : decode cX4_copyFrom 18 = .ok (.getfield 53, 3) := by decide +kernel
theorem dX4_copyFrom_21 : decode cX4_copyFrom 21 = .ok (.putfield 53, 3) := by decide +kernel
theorem dX4_copyFrom_24 : decode cX4_copyFrom 24 = .ok (.aload_n 0, 1) := by decide +kernel
theorem dX4_copyFrom_25 : decode cX4_copyFrom 25 = .ok (.aload_n 1, 1) := by decide +kernel
theorem dX4_copyFrom_26 : decode cX4_copyFrom 26 = .ok (.getfield 56, 3) := by decide +kernel
theorem dX4_copyFrom_29 : decode cX4_copyFrom 29 = .ok (.putfield 56, 3) := by decide +kernel
theorem dX4_copyFrom_32 : decode cX4_copyFrom 32 = .ok (.aload_n 0, 1) := by decide +kernel
theorem dX4_copyFrom_33 : decode cX4_copyFrom 33 = .ok (.aload_n 1, 1) := by decide +kernel
theorem dX4_copyFrom_34 : decode cX4_copyFrom 34 = .ok (.getfield 9, 3) := by decide +kernel
theorem dX4_copyFrom_37 : decode cX4_copyFrom 37 = .ok (.putfield 9, 3) := by decide +kernel
theorem dX4_copyFrom_40 : decode cX4_copyFrom 40 = .ok (.aload_n 0, 1) := by decide +kernel
theorem dX4_copyFrom_41 : decode cX4_copyFrom 41 = .ok (.aload_n 1, 1) := by decide +kernel
theorem dX4_copyFrom_42 : decode cX4_copyFrom 42 = .ok (.getfield 15, 3) := by decide +kernel
theorem dX4_copyFrom_45 : decode cX4_copyFrom 45 = .ok (.putfield 15, 3) := by decide +kernel
theorem dX4_copyFrom_48 : decode cX4_copyFrom 48 = .ok (.aload_n 0, 1) := by decide +kernel
theorem dX4_copyFrom_49 : decode cX4_copyFrom 49 = .ok (.aload_n 1, 1) := by decide +kernel
theorem dX4_copyFrom_50 : decode cX4_copyFrom 50 = .ok (.getfield 18, 3) := by decide +kernel
theorem dX4_copyFrom_53 : decode cX4_copyFrom 53 = .ok (.putfield 18, 3) := by decide +kernel
theorem dX4_copyFrom_56 : decode cX4_copyFrom 56 = .ok (.aload_n 0, 1) := by decide +kernel
theorem dX4_copyFrom_57 : decode cX4_copyFrom 57 = .ok (.aload_n 1, 1) := by decide +kernel
theorem dX4_copyFrom_58 : decode cX4_copyFrom 58 = .ok (.getfield 59, 3) := by decide +kernel
theorem dX4_copyFrom_61 : decode cX4_copyFrom 61 = .ok (.putfield 59, 3) := by decide +kernel
theorem dX4_copyFrom_64 : decode cX4_copyFrom 64 = .ok (.aload_n 1, 1) := by decide +kernel
theorem dX4_copyFrom_65 : decode cX4_copyFrom 65 = .ok (.getfield 21, 3) := by decide +kernel
theorem dX4_copyFrom_68 : decode cX4_copyFrom 68 = .ok (.aload_n 0, 1) := by decide +kernel
theorem dX4_copyFrom_69 : decode cX4_copyFrom 69 = .ok (.getfield 21, 3) := by decide +kernel
theorem dX4_copyFrom_72 : decode cX4_copyFrom 72 = .ok (.invokestatic 66, 3) := by decide +kernel
theorem dX4_copyFrom_75 : decode cX4_copyFrom 75 = .ok (.aload_n 1, 1) := by decide +kernel
theorem dX4_copyFrom_76 : decode cX4_copyFrom 76 = .ok (.getfield 25, 3) := by decide +kernel
theorem dX4_copyFrom_79 : decode cX4_copyFrom 79 = .ok (.aload_n 0, 1) := by decide +kernel
theorem dX4_copyFrom_80 : decode cX4_copyFrom 80 = .ok (.getfield 25, 3) := by decide +kernel
theorem dX4_copyFrom_83 : decode cX4_copyFrom 83 = .ok (.invokestatic 66, 3) := by decide +kernel
theorem dX4_copyFrom_86 : decode cX4_copyFrom 86 = .ok (.aload_n 1, 1) := by decide +kernel
theorem dX4_copyFrom_87 : decode cX4_copyFrom 87 = .ok (.getfield 28, 3) := by decide +kernel
theorem dX4_copyFrom_90 : decode cX4_copyFrom 90 = .ok (.aload_n 0, 1) := by decide +kernel
theorem dX4_copyFrom_91 : decode cX4_copyFrom 91 = .ok (.getfield 28, 3) := by decide +kernel
theorem dX4_copyFrom_94 : decode cX4_copyFrom 94 = .ok (.invokestatic 66, 3) := by decide +kernel
theorem dX4_copyFrom_97 : decode cX4_copyFrom 97 = .ok (.aload_n 1, 1) := by decide +kernel
theorem dX4_copyFrom_98 : decode cX4_copyFrom 98 = .ok (.getfield 31, 3) := by decide +kernel
theorem dX4_copyFrom_101 : decode cX4_copyFrom 101 = .ok (.aload_n 0, 1) := by decide +kernel
theorem dX4_copyFrom_102 : decode cX4_copyFrom 102 = .ok (.getfield 31, 3) := by decide +kernel
theorem dX4_copyFrom_105 : decode cX4_copyFrom 105 = .ok (.invokestatic 66, 3) := by decide +kernel
theorem dX4_copyFrom_108 : decode cX4_copyFrom 108 = .ok (.aload_n 1, 1) := by decide +kernel
theorem dX4_copyFrom_109 : decode cX4_copyFrom 109 = .ok (.getfield 34, 3) := by decide +kernel
theorem dX4_copyFrom_112 : decode cX4_copyFrom 112 = .ok (.aload_n 0, 1) := by decide +kernel
theorem dX4_copyFrom_113 : decode cX4_copyFrom 113 = .ok (.getfield 34, 3) := by decide +kernel
theorem dX4_copyFrom_116 : decode cX4_copyFrom 116 = .ok (.invokestatic 66, 3) := by decide +kernel
theorem dX4_copyFrom_119 : decode cX4_copyFrom 119 = .ok (.return_, 1) := by decide +kernel
theorem dX4_swapBound_0 : decode cX4_swapBound 0 = .ok (.iload_n 1, 1) := by decide +kernel
theorem dX4_swapBound_1 : decode cX4_swapBound 1 = .ok (.ifCond .ne 16, 3) := by decide +kernel
theorem dX4_swapBound_4 : decode cX4_swapBound 4 = .ok (.aload_n 0, 1) := by decide +kernel
theorem dX4_swapBound_5 : decode cX4_swapBound 5 = .ok (.getfield 9, 3) := by decide +kernel
theorem dX4_swapBound_8 : decode cX4_swapBound 8 = .ok (.istore_n 3, 1) := by decide +kernel
theorem dX4_swapBound_9 : decode cX4_swapBound 9 = .ok (.aload_n 0, 1) := by decide +kernel
theorem dX4_swapBound_10 : decode cX4_swapBound 10 = .ok (.iload_n 2, 1) := by decide +kernel
theorem dX4_swapBound_11 : decode cX4_swapBound 11 = .ok (.putfield 9, 3) := by decide +kernel
theorem dX4_swapBound_14 : decode cX4_swapBound 14 = .ok (.goto 31, 3) := by decide +kernel
theorem dX4_swapBound_17 : decode cX4_swapBound 17 = .ok (.iload_n 1, 1) := by decide +kernel
theorem dX4_swapBound_18 : decode cX4_swapBound 18 = .ok (.iconst 1, 1) := by decide +kernel
theorem dX4_swapBound_19 : decode cX4_swapBound 19 = .ok (.if_icmp .ne 16, 3) := by decide +kernel
theorem dX4_swapBound_22 : decode cX4_swapBound 22 = .ok (.aload_n 0, 1) := by decide +kernel
theorem dX4_swapBound_23 : decode cX4_swapBound 23 = .ok (.getfield 15, 3) := by decide +kernel
theorem dX4_swapBound_26 : decode cX4_swapBound 26 = .ok (.istore_n 3, 1) := by decide +kernel
theorem dX4_swapBound_27 : decode cX4_swapBound 27 = .ok (.aload_n 0, 1) := by decide +kernel
theorem dX4_swapBound_28 : decode cX4_swapBound 28 = .ok (.iload_n 2, 1) := by decide +kernel
theorem dX4_swapBound_29 : decode cX4_swapBound 29 = .ok (.putfield 15, 3) := by decide +kernel
theorem dX4_swapBound_32 : decode cX4_swapBound 32 = .ok (.goto 13, 3) := by decide +kernel
theorem dX4_swapBound_35 : decode cX4_swapBound 35 = .ok (.aload_n 0, 1) := by decide +kernel
theorem dX4_swapBound_36 : decode cX4_swapBound 36 = .ok (.getfield 18, 3) := by decide +kernel
theorem dX4_swapBound_39 : decode cX4_swapBound 39 = .ok (.istore_n 3, 1) := by decide +kernel
theorem dX4_swapBound_40 : decode cX4_swapBound 40 = .ok (.aload_n 0, 1) := by decide +kernel
theorem dX4_swapBound_41 : decode cX4_swapBound 41 = .ok (.iload_n 2, 1) := by decide +kernel
theorem dX4_swapBound_42 : decode cX4_swapBound 42 = .ok (.putfield 18, 3) := by decide +kernel
theorem dX4_swapBound_45 : decode cX4_swapBound 45 = .ok (.iload_n 3, 1) := by decide +kernel
theorem dX4_swapBound_46 : decode cX4_swapBound 46 = .ok (.ireturn, 1) := by decide +kernel
theorem dX4_isCell_0 : decode cX4_isCell 0 = .ok (.iload_n 1, 1) := by decide +kernel
theorem dX4_isCell_1 : decode cX4_isCell 1 = .ok (.ifCond .lt 15, 3) := by decide +kernel
theorem dX4_isCell_4 : decode cX4_isCell 4 = .ok (.iload_n 1, 1) := by decide +kernel
theorem dX4_isCell_5 : decode cX4_isCell 5 = .ok (.aload_n 0, 1) := by decide +kernel
theorem dX4_isCell_6 : decode cX4_isCell 6 = .ok (.getfield 53, 3) := by decide +kernel
theorem dX4_isCell_9 : decode cX4_isCell 9 = .ok (.if_icmp .ge 7, 3) := by decide +kernel
theorem dX4_isCell_12 : decode cX4_isCell 12 = .ok (.iconst 1, 1) := by decide +kernel
theorem dX4_isCell_13 : decode cX4_isCell 13 = .ok (.goto 4, 3) := by decide +kernel
theorem dX4_isCell_16 : decode cX4_isCell 16 = .ok (.iconst 0, 1) := by decide +kernel
theorem dX4_isCell_17 : decode cX4_isCell 17 = .ok (.ireturn, 1) := by decide +kernel
theorem dX4_isPoured_0 : decode cX4_isPoured 0 = .ok (.iload_n 1, 1) := by decide +kernel
theorem dX4_isPoured_1 : decode cX4_isPoured 1 = .ok (.ifCond .lt 25, 3) := by decide +kernel
theorem dX4_isPoured_4 : decode cX4_isPoured 4 = .ok (.iload_n 1, 1) := by decide +kernel
theorem dX4_isPoured_5 : decode cX4_isPoured 5 = .ok (.aload_n 0, 1) := by decide +kernel
theorem dX4_isPoured_6 : decode cX4_isPoured 6 = .ok (.getfield 53, 3) := by decide +kernel
theorem dX4_isPoured_9 : decode cX4_isPoured 9 = .ok (.if_icmp .ge 17, 3) := by decide +kernel
theorem dX4_isPoured_12 : decode cX4_isPoured 12 = .ok (.aload_n 0, 1) := by decide +kernel
theorem dX4_isPoured_13 : decode cX4_isPoured 13 = .ok (.getfield 25, 3) := by decide +kernel
theorem dX4_isPoured_16 : decode cX4_isPoured 16 = .ok (.iload_n 1, 1) := by decide +kernel
theorem dX4_isPoured_17 : decode cX4_isPoured 17 = .ok (.iaload, 1) := by decide +kernel
theorem dX4_isPoured_18 : decode cX4_isPoured 18 = .ok (.iconst (-1), 1) := by decide +kernel
theorem dX4_isPoured_19 : decode cX4_isPoured 19 = .ok (.if_icmp .eq 7, 3) := by decide +kernel
theorem dX4_isPoured_22 : decode cX4_isPoured 22 = .ok (.iconst 1, 1) := by decide +kernel
theorem dX4_isPoured_23 : decode cX4_isPoured 23 = .ok (.goto 4, 3) := by decide +kernel
theorem dX4_isPoured_26 : decode cX4_isPoured 26 = .ok (.iconst 0, 1) := by decide +kernel
theorem dX4_isPoured_27 : decode cX4_isPoured 27 = .ok (.ireturn, 1) := by decide +kernel
theorem dX4_pouredSet_0 : decode cX4_pouredSet 0 = .ok (.iconst 0, 1) := by decide +kernel
theorem dX4_pouredSet_1 : decode cX4_pouredSet 1 = .ok (.istore_n 1, 1) := by decide +kernel
theorem dX4_pouredSet_2 : decode cX4_pouredSet 2 = .ok (.iconst 0, 1) := by decide +kernel
theorem dX4_pouredSet_3 : decode cX4_pouredSet 3 = .ok (.istore_n 2, 1) := by decide +kernel
theorem dX4_pouredSet_4 : decode cX4_pouredSet 4 = .ok (.iload_n 2, 1) := by decide +kernel
theorem dX4_pouredSet_5 : decode cX4_pouredSet 5 = .ok (.aload_n 0, 1) := by decide +kernel
theorem dX4_pouredSet_6 : decode cX4_pouredSet 6 = .ok (.getfield 53, 3) := by decide +kernel
theorem dX4_pouredSet_9 : decode cX4_pouredSet 9 = .ok (.if_icmp .ge 23, 3) := by decide +kernel
theorem dX4_pouredSet_12 : decode cX4_pouredSet 12 = .ok (.aload_n 0, 1) := by decide +kernel
theorem dX4_pouredSet_13 : decode cX4_pouredSet 13 = .ok (.iload_n 2, 1) := by decide +kernel
theorem dX4_pouredSet_14 : decode cX4_pouredSet 14 = .ok (.invokevirtual 70, 3) := by decide +kernel
theorem dX4_pouredSet_17 : decode cX4_pouredSet 17 = .ok (.ifCond .eq 9, 3) := by decide +kernel
theorem dX4_pouredSet_20 : decode cX4_pouredSet 20 = .ok (.iload_n 1, 1) := by decide +kernel
theorem dX4_pouredSet_21 : decode cX4_pouredSet 21 = .ok (.iconst 1, 1) := by decide +kernel
theorem dX4_pouredSet_22 : decode cX4_pouredSet 22 = .ok (.iload_n 2, 1) := by decide +kernel
theorem dX4_pouredSet_23 : decode cX4_pouredSet 23 = .ok (.ishl, 1) := by decide +kernel
theorem dX4_pouredSet_24 : decode cX4_pouredSet 24 = .ok (.ior, 1) := by decide +kernel
theorem dX4_pouredSet_25 : decode cX4_pouredSet 25 = .ok (.istore_n 1, 1) := by decide +kernel
theorem dX4_pouredSet_26 : decode cX4_pouredSet 26 = .ok (.iinc 2 1, 3) := by decide +kernel
theorem dX4_pouredSet_29 : decode cX4_pouredSet 29 = .ok (.goto (-25), 3) := by decide +kernel
theorem dX4_pouredSet_32 : decode cX4_pouredSet 32 = .ok (.iload_n 1, 1) := by decide +kernel
theorem dX4_pouredSet_33 : decode cX4_pouredSet 33 = .ok (.ireturn, 1) := by decide +kernel
theorem dX4_pouredCount_0 : decode cX4_pouredCount 0 = .ok (.aload_n 0, 1) := by decide +kernel
theorem dX4_pouredCount_1 : decode cX4_pouredCount 1 = .ok (.invokevirtual 74, 3) := by decide +kernel
theorem dX4_pouredCount_4 : decode cX4_pouredCount 4 = .ok (.invokestatic 78, 3) := by decide +kernel
theorem dX4_pouredCount_7 : decode cX4_pouredCount 7 = .ok (.ireturn, 1) := by decide +kernel
theorem dX4_canSet_0 : decode cX4_canSet 0 = .ok (.iconst 0, 1) := by decide +kernel
theorem dX4_canSet_1 : decode cX4_canSet 1 = .ok (.istore_n 1, 1) := by decide +kernel
theorem dX4_canSet_2 : decode cX4_canSet 2 = .ok (.iconst 0, 1) := by decide +kernel
theorem dX4_canSet_3 : decode cX4_canSet 3 = .ok (.istore_n 2, 1) := by decide +kernel
theorem dX4_canSet_4 : decode cX4_canSet 4 = .ok (.iload_n 2, 1) := by decide +kernel
theorem dX4_canSet_5 : decode cX4_canSet 5 = .ok (.aload_n 0, 1) := by decide +kernel
theorem dX4_canSet_6 : decode cX4_canSet 6 = .ok (.getfield 53, 3) := by decide +kernel
theorem dX4_canSet_9 : decode cX4_canSet 9 = .ok (.if_icmp .ge 24, 3) := by decide +kernel
theorem dX4_canSet_12 : decode cX4_canSet 12 = .ok (.aload_n 0, 1) := by decide +kernel
theorem dX4_canSet_13 : decode cX4_canSet 13 = .ok (.iload_n 2, 1) := by decide +kernel
theorem dX4_canSet_14 : decode cX4_canSet 14 = .ok (.invokevirtual 84, 3) := by decide +kernel
theorem dX4_canSet_17 : decode cX4_canSet 17 = .ok (.iconst (-1), 1) := by decide +kernel
theorem dX4_canSet_18 : decode cX4_canSet 18 = .ok (.if_icmp .eq 9, 3) := by decide +kernel
theorem dX4_canSet_21 : decode cX4_canSet 21 = .ok (.iload_n 1, 1) := by decide +kernel
theorem dX4_canSet_22 : decode cX4_canSet 22 = .ok (.iconst 1, 1) := by decide +kernel
theorem dX4_canSet_23 : decode cX4_canSet 23 = .ok (.iload_n 2, 1) := by decide +kernel
theorem dX4_canSet_24 : decode cX4_canSet 24 = .ok (.ishl, 1) := by decide +kernel
theorem dX4_canSet_25 : decode cX4_canSet 25 = .ok (.ior, 1) := by decide +kernel
theorem dX4_canSet_26 : decode cX4_canSet 26 = .ok (.istore_n 1, 1) := by decide +kernel
theorem dX4_canSet_27 : decode cX4_canSet 27 = .ok (.iinc 2 1, 3) := by decide +kernel
theorem dX4_canSet_30 : decode cX4_canSet 30 = .ok (.goto (-26), 3) := by decide +kernel
theorem dX4_canSet_33 : decode cX4_canSet 33 = .ok (.iload_n 1, 1) := by decide +kernel
theorem dX4_canSet_34 : decode cX4_canSet 34 = .ok (.ireturn, 1) := by decide +kernel
theorem dX4_startOf_0 : decode cX4_startOf 0 = .ok (.aload_n 0, 1) := by decide +kernel
theorem dX4_startOf_1 : decode cX4_startOf 1 = .ok (.iload_n 1, 1) := by decide +kernel
theorem dX4_startOf_2 : decode cX4_startOf 2 = .ok (.invokevirtual 87, 3) := by decide +kernel
theorem dX4_startOf_5 : decode cX4_startOf 5 = .ok (.ifCond .eq 11, 3) := by decide +kernel
theorem dX4_startOf_8 : decode cX4_startOf 8 = .ok (.aload_n 0, 1) := by decide +kernel
theorem dX4_startOf_9 : decode cX4_startOf 9 = .ok (.iload_n 1, 1) := by decide +kernel
theorem dX4_startOf_10 : decode cX4_startOf 10 = .ok (.invokevirtual 70, 3) := by decide +kernel
theorem dX4_startOf_13 : decode cX4_startOf 13 = .ok (.ifCond .eq 5, 3) := by decide +kernel
theorem dX4_startOf_16 : decode cX4_startOf 16 = .ok (.iconst (-1), 1) := by decide +kernel
theorem dX4_startOf_17 : decode cX4_startOf 17 = .ok (.ireturn, 1) := by decide +kernel
theorem dX4_startOf_18 : decode cX4_startOf 18 = .ok (.iload_n 1, 1) := by decide +kernel
theorem dX4_startOf_19 : decode cX4_startOf 19 = .ok (.aload_n 0, 1) := by decide +kernel
theorem dX4_startOf_20 : decode cX4_startOf 20 = .ok (.getfield 41, 3) := by decide +kernel
theorem dX4_startOf_23 : decode cX4_startOf 23 = .ok (.if_icmp .lt 18, 3) := by decide +kernel
theorem dX4_startOf_26 : decode cX4_startOf 26 = .ok (.aload_n 0, 1) := by decide +kernel
theorem dX4_startOf_27 : decode cX4_startOf 27 = .ok (.iload_n 1, 1) := by decide +kernel
theorem dX4_startOf_28 : decode cX4_startOf 28 = .ok (.aload_n 0, 1) := by decide +kernel
theorem dX4_startOf_29 : decode cX4_startOf 29 = .ok (.getfield 41, 3) := by decide +kernel
theorem dX4_startOf_32 : decode cX4_startOf 32 = .ok (.isub, 1) := by decide +kernel
theorem dX4_startOf_33 : decode cX4_startOf 33 = .ok (.invokevirtual 70, 3) := by decide +kernel
theorem dX4_startOf_36 : decode cX4_startOf 36 = .ok (.ifCond .ne 5, 3) := by decide +kernel
theorem dX4_startOf_39 : decode cX4_startOf 39 = .ok (.iconst (-1), 1) := by decide +kernel
theorem dX4_startOf_40 : decode cX4_startOf 40 = .ok (.ireturn, 1) := by decide +kernel
theorem dX4_startOf_41 : decode cX4_startOf 41 = .ok (.aload_n 0, 1) := by decide +kernel
theorem dX4_startOf_42 : decode cX4_startOf 42 = .ok (.aload_n 0, 1) := by decide +kernel
theorem dX4_startOf_43 : decode cX4_startOf 43 = .ok (.invokevirtual 90, 3) := by decide +kernel
theorem dX4_startOf_46 : decode cX4_startOf 46 = .ok (.aload_n 0, 1) := by decide +kernel
theorem dX4_startOf_47 : decode cX4_startOf 47 = .ok (.getfield 21, 3) := by decide +kernel
theorem dX4_startOf_50 : decode cX4_startOf 50 = .ok (.iload_n 1, 1) := by decide +kernel
theorem dX4_startOf_51 : decode cX4_startOf 51 = .ok (.iaload, 1) := by decide +kernel
theorem dX4_startOf_52 : decode cX4_startOf 52 = .ok (.iadd, 1) := by decide +kernel
theorem dX4_startOf_53 : decode cX4_startOf 53 = .ok (.invokevirtual 93, 3) := by decide +kernel
theorem dX4_startOf_56 : decode cX4_startOf 56 = .ok (.istore_n 2, 1) := by decide +kernel
theorem dX4_startOf_57 : decode cX4_startOf 57 = .ok (.iload_n 2, 1) := by decide +kernel
theorem dX4_startOf_58 : decode cX4_startOf 58 = .ok (.iconst (-1), 1) := by decide +kernel
theorem dX4_startOf_59 : decode cX4_startOf 59 = .ok (.if_icmp .ne 7, 3) := by decide +kernel
theorem dX4_startOf_62 : decode cX4_startOf 62 = .ok (.iconst (-1), 1) := by decide +kernel
theorem dX4_startOf_63 : decode cX4_startOf 63 = .ok (.goto 11, 3) := by decide +kernel
theorem dX4_startOf_66 : decode cX4_startOf 66 = .ok (.aload_n 0, 1) := by decide +kernel
theorem dX4_startOf_67 : decode cX4_startOf 67 = .ok (.getfield 56, 3) := by decide +kernel
theorem dX4_startOf_70 : decode cX4_startOf 70 = .ok (.iload_n 2, 1) := by decide +kernel
theorem dX4_startOf_71 : decode cX4_startOf 71 = .ok (.invokestatic 96, 3) := by decide +kernel
theorem dX4_startOf_74 : decode cX4_startOf 74 = .ok (.ireturn, 1) := by decide +kernel
theorem dX4_fill_0 : decode cX4_fill 0 = .ok (.aload_n 0, 1) := by decide +kernel
theorem dX4_fill_1 : decode cX4_fill 1 = .ok (.iload_n 1, 1) := by decide +kernel
theorem dX4_fill_2 : decode cX4_fill 2 = .ok (.invokevirtual 84, 3) := by decide +kernel
theorem dX4_fill_5 : decode cX4_fill 5 = .ok (.istore_n 2, 1) := by decide +kernel
theorem dX4_fill_6 : decode cX4_fill 6 = .ok (.iload_n 2, 1) := by decide +kernel
theorem dX4_fill_7 : decode cX4_fill 7 = .ok (.iconst (-1), 1) := by decide +kernel
theorem dX4_fill_8 : decode cX4_fill 8 = .ok (.if_icmp .ne 4, 3) := by decide +kernel
theorem dX4_fill_11 : decode cX4_fill 11 = .ok (.return_, 1) := by decide +kernel
theorem dX4_fill_12 : decode cX4_fill 12 = .ok (.aload_n 0, 1) := by decide +kernel
theorem dX4_fill_13 : decode cX4_fill 13 = .ok (.getfield 25, 3) := by decide +kernel
theorem dX4_fill_16 : decode cX4_fill 16 = .ok (.iload_n 1, 1) := by decide +kernel
theorem dX4_fill_17 : decode cX4_fill 17 = .ok (.iload_n 2, 1) := by decide +kernel
theorem dX4_fill_18 : decode cX4_fill 18 = .ok (.iastore, 1) := by decide +kernel
theorem dX4_fill_19 : decode cX4_fill 19 = .ok (.aload_n 0, 1) := by decide +kernel
theorem dX4_fill_20 : decode cX4_fill 20 = .ok (.getfield 28, 3) := by decide +kernel
theorem dX4_fill_23 : decode cX4_fill 23 = .ok (.iload_n 1, 1) := by decide +kernel
theorem dX4_fill_24 : decode cX4_fill 24 = .ok (.iload_n 2, 1) := by decide +kernel
theorem dX4_fill_25 : decode cX4_fill 25 = .ok (.aload_n 0, 1) := by decide +kernel
theorem dX4_fill_26 : decode cX4_fill 26 = .ok (.getfield 21, 3) := by decide +kernel
theorem dX4_fill_29 : decode cX4_fill 29 = .ok (.iload_n 1, 1) := by decide +kernel
theorem dX4_fill_30 : decode cX4_fill 30 = .ok (.iaload, 1) := by decide +kernel
theorem dX4_fill_31 : decode cX4_fill 31 = .ok (.iadd, 1) := by decide +kernel
theorem dX4_fill_32 : decode cX4_fill 32 = .ok (.iastore, 1) := by decide +kernel
theorem dX4_fill_33 : decode cX4_fill 33 = .ok (.aload_n 0, 1) := by decide +kernel
theorem dX4_fill_34 : decode cX4_fill 34 = .ok (.aload_n 0, 1) := by decide +kernel
theorem dX4_fill_35 : decode cX4_fill 35 = .ok (.getfield 28, 3) := by decide +kernel
theorem dX4_fill_38 : decode cX4_fill 38 = .ok (.iload_n 1, 1) := by decide +kernel
theorem dX4_fill_39 : decode cX4_fill 39 = .ok (.iaload, 1) := by decide +kernel
theorem dX4_fill_40 : decode cX4_fill 40 = .ok (.putfield 56, 3) := by decide +kernel
theorem dX4_fill_43 : decode cX4_fill 43 = .ok (.return_, 1) := by decide +kernel
theorem dX4_isTruck_0 : decode cX4_isTruck 0 = .ok (.iload_n 1, 1) := by decide +kernel
theorem dX4_isTruck_1 : decode cX4_isTruck 1 = .ok (.ifCond .lt 15, 3) := by decide +kernel
theorem dX4_isTruck_4 : decode cX4_isTruck 4 = .ok (.iload_n 1, 1) := by decide +kernel
theorem dX4_isTruck_5 : decode cX4_isTruck 5 = .ok (.aload_n 0, 1) := by decide +kernel
theorem dX4_isTruck_6 : decode cX4_isTruck 6 = .ok (.getfield 59, 3) := by decide +kernel
theorem dX4_isTruck_9 : decode cX4_isTruck 9 = .ok (.if_icmp .ge 7, 3) := by decide +kernel
theorem dX4_isTruck_12 : decode cX4_isTruck 12 = .ok (.iconst 1, 1) := by decide +kernel
theorem dX4_isTruck_13 : decode cX4_isTruck 13 = .ok (.goto 4, 3) := by decide +kernel
theorem dX4_isTruck_16 : decode cX4_isTruck 16 = .ok (.iconst 0, 1) := by decide +kernel
theorem dX4_isTruck_17 : decode cX4_isTruck 17 = .ok (.ireturn, 1) := by decide +kernel
theorem dX4_hasTruckRoom_0 : decode cX4_hasTruckRoom 0 = .ok (.aload_n 0, 1) := by decide +kernel
theorem dX4_hasTruckRoom_1 : decode cX4_hasTruckRoom 1 = .ok (.getfield 59, 3) := by decide +kernel
theorem dX4_hasTruckRoom_4 : decode cX4_hasTruckRoom 4 = .ok (.bipush 9, 2) := by decide +kernel
theorem dX4_hasTruckRoom_6 : decode cX4_hasTruckRoom 6 = .ok (.if_icmp .ge 7, 3) := by decide +kernel
theorem dX4_hasTruckRoom_9 : decode cX4_hasTruckRoom 9 = .ok (.iconst 1, 1) := by decide +kernel
theorem dX4_hasTruckRoom_10 : decode cX4_hasTruckRoom 10 = .ok (.goto 4, 3) := by decide +kernel
theorem dX4_hasTruckRoom_13 : decode cX4_hasTruckRoom 13 = .ok (.iconst 0, 1) := by decide +kernel
theorem dX4_hasTruckRoom_14 : decode cX4_hasTruckRoom 14 = .ok (.ireturn, 1) := by decide +kernel
theorem dX4_addTruck_0 : decode cX4_addTruck 0 = .ok (.aload_n 0, 1) := by decide +kernel
theorem dX4_addTruck_1 : decode cX4_addTruck 1 = .ok (.invokevirtual 99, 3) := by decide +kernel
theorem dX4_addTruck_4 : decode cX4_addTruck 4 = .ok (.ifCond .ne 4, 3) := by decide +kernel
theorem dX4_addTruck_7 : decode cX4_addTruck 7 = .ok (.return_, 1) := by decide +kernel
theorem dX4_addTruck_8 : decode cX4_addTruck 8 = .ok (.aload_n 0, 1) := by decide +kernel
theorem dX4_addTruck_9 : decode cX4_addTruck 9 = .ok (.getfield 31, 3) := by decide +kernel
theorem dX4_addTruck_12 : decode cX4_addTruck 12 = .ok (.aload_n 0, 1) := by decide +kernel
theorem dX4_addTruck_13 : decode cX4_addTruck 13 = .ok (.getfield 59, 3) := by decide +kernel
theorem dX4_addTruck_16 : decode cX4_addTruck 16 = .ok (.iload_n 1, 1) := by decide +kernel
theorem dX4_addTruck_17 : decode cX4_addTruck 17 = .ok (.iastore, 1) := by decide +kernel
theorem dX4_addTruck_18 : decode cX4_addTruck 18 = .ok (.aload_n 0, 1) := by decide +kernel
theorem dX4_addTruck_19 : decode cX4_addTruck 19 = .ok (.getfield 34, 3) := by decide +kernel
theorem dX4_addTruck_22 : decode cX4_addTruck 22 = .ok (.aload_n 0, 1) := by decide +kernel
theorem dX4_addTruck_23 : decode cX4_addTruck 23 = .ok (.getfield 59, 3) := by decide +kernel
theorem dX4_addTruck_26 : decode cX4_addTruck 26 = .ok (.iload_n 2, 1) := by decide +kernel
theorem dX4_addTruck_27 : decode cX4_addTruck 27 = .ok (.iastore, 1) := by decide +kernel
theorem dX4_addTruck_28 : decode cX4_addTruck 28 = .ok (.aload_n 0, 1) := by decide +kernel
theorem dX4_addTruck_29 : decode cX4_addTruck 29 = .ok (.dup, 1) := by decide +kernel
theorem dX4_addTruck_30 : decode cX4_addTruck 30 = .ok (.getfield 59, 3) := by decide +kernel
theorem dX4_addTruck_33 : decode cX4_addTruck 33 = .ok (.iconst 1, 1) := by decide +kernel
theorem dX4_addTruck_34 : decode cX4_addTruck 34 = .ok (.iadd, 1) := by decide +kernel
theorem dX4_addTruck_35 : decode cX4_addTruck 35 = .ok (.putfield 59, 3) := by decide +kernel
theorem dX4_addTruck_38 : decode cX4_addTruck 38 = .ok (.return_, 1) := by decide +kernel
theorem dX4_delay_0 : decode cX4_delay 0 = .ok (.aload_n 0, 1) := by decide +kernel
theorem dX4_delay_1 : decode cX4_delay 1 = .ok (.iload_n 1, 1) := by decide +kernel
theorem dX4_delay_2 : decode cX4_delay 2 = .ok (.invokevirtual 103, 3) := by decide +kernel
theorem dX4_delay_5 : decode cX4_delay 5 = .ok (.ifCond .eq 13, 3) := by decide +kernel
theorem dX4_delay_8 : decode cX4_delay 8 = .ok (.aload_n 0, 1) := by decide +kernel
theorem dX4_delay_9 : decode cX4_delay 9 = .ok (.getfield 31, 3) := by decide +kernel
theorem dX4_delay_12 : decode cX4_delay 12 = .ok (.iload_n 1, 1) := by decide +kernel
theorem dX4_delay_13 : decode cX4_delay 13 = .ok (.dup2, 1) := by decide +kernel
theorem dX4_delay_14 : decode cX4_delay 14 = .ok (.iaload, 1) := by decide +kernel
theorem dX4_delay_15 : decode cX4_delay 15 = .ok (.iload_n 2, 1) := by decide +kernel
theorem dX4_delay_16 : decode cX4_delay 16 = .ok (.iadd, 1) := by decide +kernel
theorem dX4_delay_17 : decode cX4_delay 17 = .ok (.iastore, 1) := by decide +kernel
theorem dX4_delay_18 : decode cX4_delay 18 = .ok (.return_, 1) := by decide +kernel
theorem dX4_dropTruck_0 : decode cX4_dropTruck 0 = .ok (.aload_n 0, 1) := by decide +kernel
theorem dX4_dropTruck_1 : decode cX4_dropTruck 1 = .ok (.iload_n 1, 1) := by decide +kernel
theorem dX4_dropTruck_2 : decode cX4_dropTruck 2 = .ok (.invokevirtual 103, 3) := by decide +kernel
theorem dX4_dropTruck_5 : decode cX4_dropTruck 5 = .ok (.ifCond .ne 4, 3) := by decide +kernel
theorem dX4_dropTruck_8 : decode cX4_dropTruck 8 = .ok (.return_, 1) := by decide +kernel
theorem dX4_dropTruck_9 : decode cX4_dropTruck 9 = .ok (.iload_n 1, 1) := by decide +kernel
theorem dX4_dropTruck_10 : decode cX4_dropTruck 10 = .ok (.istore_n 2, 1) := by decide +kernel
theorem dX4_dropTruck_11 : decode cX4_dropTruck 11 = .ok (.iload_n 2, 1) := by decide +kernel
theorem dX4_dropTruck_12 : decode cX4_dropTruck 12 = .ok (.iconst 1, 1) := by decide +kernel
theorem dX4_dropTruck_13 : decode cX4_dropTruck 13 = .ok (.iadd, 1) := by decide +kernel
theorem dX4_dropTruck_14 : decode cX4_dropTruck 14 = .ok (.aload_n 0, 1) := by decide +kernel
theorem dX4_dropTruck_15 : decode cX4_dropTruck 15 = .ok (.getfield 59, 3) := by decide +kernel
theorem dX4_dropTruck_18 : decode cX4_dropTruck 18 = .ok (.if_icmp .ge 37, 3) := by decide +kernel
theorem dX4_dropTruck_21 : decode cX4_dropTruck 21 = .ok (.aload_n 0, 1) := by decide +kernel
theorem dX4_dropTruck_22 : decode cX4_dropTruck 22 = .ok (.getfield 31, 3) := by decide +kernel
theorem dX4_dropTruck_25 : decode cX4_dropTruck 25 = .ok (.iload_n 2, 1) := by decide +kernel
theorem dX4_dropTruck_26 : decode cX4_dropTruck 26 = .ok (.aload_n 0, 1) := by decide +kernel
theorem dX4_dropTruck_27 : decode cX4_dropTruck 27 = .ok (.getfield 31, 3) := by decide +kernel
theorem dX4_dropTruck_30 : decode cX4_dropTruck 30 = .ok (.iload_n 2, 1) := by decide +kernel
theorem dX4_dropTruck_31 : decode cX4_dropTruck 31 = .ok (.iconst 1, 1) := by decide +kernel
theorem dX4_dropTruck_32 : decode cX4_dropTruck 32 = .ok (.iadd, 1) := by decide +kernel
theorem dX4_dropTruck_33 : decode cX4_dropTruck 33 = .ok (.iaload, 1) := by decide +kernel
theorem dX4_dropTruck_34 : decode cX4_dropTruck 34 = .ok (.iastore, 1) := by decide +kernel
theorem dX4_dropTruck_35 : decode cX4_dropTruck 35 = .ok (.aload_n 0, 1) := by decide +kernel
theorem dX4_dropTruck_36 : decode cX4_dropTruck 36 = .ok (.getfield 34, 3) := by decide +kernel
theorem dX4_dropTruck_39 : decode cX4_dropTruck 39 = .ok (.iload_n 2, 1) := by decide +kernel
theorem dX4_dropTruck_40 : decode cX4_dropTruck 40 = .ok (.aload_n 0, 1) := by decide +kernel
theorem dX4_dropTruck_41 : decode cX4_dropTruck 41 = .ok (.getfield 34, 3) := by decide +kernel
theorem dX4_dropTruck_44 : decode cX4_dropTruck 44 = .ok (.iload_n 2, 1) := by decide +kernel
theorem dX4_dropTruck_45 : decode cX4_dropTruck 45 = .ok (.iconst 1, 1) := by decide +kernel
theorem dX4_dropTruck_46 : decode cX4_dropTruck 46 = .ok (.iadd, 1) := by decide +kernel
theorem dX4_dropTruck_47 : decode cX4_dropTruck 47 = .ok (.iaload, 1) := by decide +kernel
theorem dX4_dropTruck_48 : decode cX4_dropTruck 48 = .ok (.iastore, 1) := by decide +kernel
theorem dX4_dropTruck_49 : decode cX4_dropTruck 49 = .ok (.iinc 2 1, 3) := by decide +kernel
theorem dX4_dropTruck_52 : decode cX4_dropTruck 52 = .ok (.goto (-41), 3) := by decide +kernel
theorem dX4_dropTruck_55 : decode cX4_dropTruck 55 = .ok (.aload_n 0, 1) := by decide +kernel
theorem dX4_dropTruck_56 : decode cX4_dropTruck 56 = .ok (.dup, 1) := by decide +kernel
theorem dX4_dropTruck_57 : decode cX4_dropTruck 57 = .ok (.getfield 59, 3) := by decide +kernel
theorem dX4_dropTruck_60 : decode cX4_dropTruck 60 = .ok (.iconst 1, 1) := by decide +kernel
theorem dX4_dropTruck_61 : decode cX4_dropTruck 61 = .ok (.isub, 1) := by decide +kernel
theorem dX4_dropTruck_62 : decode cX4_dropTruck 62 = .ok (.putfield 59, 3) := by decide +kernel
theorem dX4_dropTruck_65 : decode cX4_dropTruck 65 = .ok (.return_, 1) := by decide +kernel
theorem dX4_broughtBy_0 : decode cX4_broughtBy 0 = .ok (.iconst 0, 1) := by decide +kernel
theorem dX4_broughtBy_1 : decode cX4_broughtBy 1 = .ok (.istore_n 2, 1) := by decide +kernel
theorem dX4_broughtBy_2 : decode cX4_broughtBy 2 = .ok (.iconst 0, 1) := by decide +kernel
theorem dX4_broughtBy_3 : decode cX4_broughtBy 3 = .ok (.istore_n 3, 1) := by decide +kernel
theorem dX4_broughtBy_4 : decode cX4_broughtBy 4 = .ok (.iload_n 3, 1) := by decide +kernel
theorem dX4_broughtBy_5 : decode cX4_broughtBy 5 = .ok (.aload_n 0, 1) := by decide +kernel
theorem dX4_broughtBy_6 : decode cX4_broughtBy 6 = .ok (.getfield 59, 3) := by decide +kernel
theorem dX4_broughtBy_9 : decode cX4_broughtBy 9 = .ok (.if_icmp .ge 28, 3) := by decide +kernel
theorem dX4_broughtBy_12 : decode cX4_broughtBy 12 = .ok (.aload_n 0, 1) := by decide +kernel
theorem dX4_broughtBy_13 : decode cX4_broughtBy 13 = .ok (.getfield 31, 3) := by decide +kernel
theorem dX4_broughtBy_16 : decode cX4_broughtBy 16 = .ok (.iload_n 3, 1) := by decide +kernel
theorem dX4_broughtBy_17 : decode cX4_broughtBy 17 = .ok (.iaload, 1) := by decide +kernel
theorem dX4_broughtBy_18 : decode cX4_broughtBy 18 = .ok (.iload_n 1, 1) := by decide +kernel
theorem dX4_broughtBy_19 : decode cX4_broughtBy 19 = .ok (.if_icmp .gt 12, 3) := by decide +kernel
theorem dX4_broughtBy_22 : decode cX4_broughtBy 22 = .ok (.iload_n 2, 1) := by decide +kernel
theorem dX4_broughtBy_23 : decode cX4_broughtBy 23 = .ok (.aload_n 0, 1) := by decide +kernel
theorem dX4_broughtBy_24 : decode cX4_broughtBy 24 = .ok (.getfield 34, 3) := by decide +kernel
theorem dX4_broughtBy_27 : decode cX4_broughtBy 27 = .ok (.iload_n 3, 1) := by decide +kernel
theorem dX4_broughtBy_28 : decode cX4_broughtBy 28 = .ok (.iaload, 1) := by decide +kernel
theorem dX4_broughtBy_29 : decode cX4_broughtBy 29 = .ok (.iadd, 1) := by decide +kernel
theorem dX4_broughtBy_30 : decode cX4_broughtBy 30 = .ok (.istore_n 2, 1) := by decide +kernel
theorem dX4_broughtBy_31 : decode cX4_broughtBy 31 = .ok (.iinc 3 1, 3) := by decide +kernel
theorem dX4_broughtBy_34 : decode cX4_broughtBy 34 = .ok (.goto (-30), 3) := by decide +kernel
theorem dX4_broughtBy_37 : decode cX4_broughtBy 37 = .ok (.iload_n 2, 1) := by decide +kernel
theorem dX4_broughtBy_38 : decode cX4_broughtBy 38 = .ok (.ireturn, 1) := by decide +kernel
theorem dX4_broughtAt_0 : decode cX4_broughtAt 0 = .ok (.iconst (-1), 1) := by decide +kernel
theorem dX4_broughtAt_1 : decode cX4_broughtAt 1 = .ok (.istore_n 2, 1) := by decide +kernel
theorem dX4_broughtAt_2 : decode cX4_broughtAt 2 = .ok (.iconst 0, 1) := by decide +kernel
theorem dX4_broughtAt_3 : decode cX4_broughtAt 3 = .ok (.istore_n 3, 1) := by decide +kernel
theorem dX4_broughtAt_4 : decode cX4_broughtAt 4 = .ok (.iload_n 3, 1) := by decide +kernel
theorem dX4_broughtAt_5 : decode cX4_broughtAt 5 = .ok (.aload_n 0, 1) := by decide +kernel
theorem dX4_broughtAt_6 : decode cX4_broughtAt 6 = .ok (.getfield 59, 3) := by decide +kernel
theorem dX4_broughtAt_9 : decode cX4_broughtAt 9 = .ok (.if_icmp .ge 41, 3) := by decide +kernel
theorem dX4_broughtAt_12 : decode cX4_broughtAt 12 = .ok (.aload_n 0, 1) := by decide +kernel
theorem dX4_broughtAt_13 : decode cX4_broughtAt 13 = .ok (.getfield 31, 3) := by decide +kernel
theorem dX4_broughtAt_16 : decode cX4_broughtAt 16 = .ok (.iload_n 3, 1) := by decide +kernel
theorem dX4_broughtAt_17 : decode cX4_broughtAt 17 = .ok (.iaload, 1) := by decide +kernel
theorem dX4_broughtAt_18 : decode cX4_broughtAt 18 = .ok (.istore 4, 2) := by decide +kernel
theorem dX4_broughtAt_20 : decode cX4_broughtAt 20 = .ok (.iload_n 2, 1) := by decide +kernel
theorem dX4_broughtAt_21 : decode cX4_broughtAt 21 = .ok (.iconst (-1), 1) := by decide +kernel
theorem dX4_broughtAt_22 : decode cX4_broughtAt 22 = .ok (.if_icmp .eq 9, 3) := by decide +kernel
theorem dX4_broughtAt_25 : decode cX4_broughtAt 25 = .ok (.iload 4, 2) := by decide +kernel
theorem dX4_broughtAt_27 : decode cX4_broughtAt 27 = .ok (.iload_n 2, 1) := by decide +kernel
theorem dX4_broughtAt_28 : decode cX4_broughtAt 28 = .ok (.if_icmp .ge 16, 3) := by decide +kernel
theorem dX4_broughtAt_31 : decode cX4_broughtAt 31 = .ok (.aload_n 0, 1) := by decide +kernel
theorem dX4_broughtAt_32 : decode cX4_broughtAt 32 = .ok (.iload 4, 2) := by decide +kernel
theorem dX4_broughtAt_34 : decode cX4_broughtAt 34 = .ok (.invokevirtual 106, 3) := by decide +kernel
theorem dX4_broughtAt_37 : decode cX4_broughtAt 37 = .ok (.iload_n 1, 1) := by decide +kernel
theorem dX4_broughtAt_38 : decode cX4_broughtAt 38 = .ok (.if_icmp .lt 6, 3) := by decide +kernel
theorem dX4_broughtAt_41 : decode cX4_broughtAt 41 = .ok (.iload 4, 2) := by decide +kernel
theorem dX4_broughtAt_43 : decode cX4_broughtAt 43 = .ok (.istore_n 2, 1) := by decide +kernel
theorem dX4_broughtAt_44 : decode cX4_broughtAt 44 = .ok (.iinc 3 1, 3) := by decide +kernel
theorem dX4_broughtAt_47 : decode cX4_broughtAt 47 = .ok (.goto (-43), 3) := by decide +kernel
theorem dX4_broughtAt_50 : decode cX4_broughtAt 50 = .ok (.iload_n 2, 1) := by decide +kernel
theorem dX4_broughtAt_51 : decode cX4_broughtAt 51 = .ok (.ireturn, 1) := by decide +kernel
theorem dX4_usedLoads_0 : decode cX4_usedLoads 0 = .ok (.iconst 0, 1) := by decide +kernel
theorem dX4_usedLoads_1 : decode cX4_usedLoads 1 = .ok (.istore_n 1, 1) := by decide +kernel
theorem dX4_usedLoads_2 : decode cX4_usedLoads 2 = .ok (.iconst 0, 1) := by decide +kernel
theorem dX4_usedLoads_3 : decode cX4_usedLoads 3 = .ok (.istore_n 2, 1) := by decide +kernel
theorem dX4_usedLoads_4 : decode cX4_usedLoads 4 = .ok (.iload_n 2, 1) := by decide +kernel
theorem dX4_usedLoads_5 : decode cX4_usedLoads 5 = .ok (.aload_n 0, 1) := by decide +kernel
theorem dX4_usedLoads_6 : decode cX4_usedLoads 6 = .ok (.getfield 53, 3) := by decide +kernel
theorem dX4_usedLoads_9 : decode cX4_usedLoads 9 = .ok (.if_icmp .ge 26, 3) := by decide +kernel
theorem dX4_usedLoads_12 : decode cX4_usedLoads 12 = .ok (.aload_n 0, 1) := by decide +kernel
theorem dX4_usedLoads_13 : decode cX4_usedLoads 13 = .ok (.iload_n 2, 1) := by decide +kernel
theorem dX4_usedLoads_14 : decode cX4_usedLoads 14 = .ok (.invokevirtual 70, 3) := by decide +kernel
theorem dX4_usedLoads_17 : decode cX4_usedLoads 17 = .ok (.ifCond .eq 12, 3) := by decide +kernel
theorem dX4_usedLoads_20 : decode cX4_usedLoads 20 = .ok (.iload_n 1, 1) := by decide +kernel
theorem dX4_usedLoads_21 : decode cX4_usedLoads 21 = .ok (.aload_n 0, 1) := by decide +kernel
theorem dX4_usedLoads_22 : decode cX4_usedLoads 22 = .ok (.getfield 21, 3) := by decide +kernel
theorem dX4_usedLoads_25 : decode cX4_usedLoads 25 = .ok (.iload_n 2, 1) := by decide +kernel
theorem dX4_usedLoads_26 : decode cX4_usedLoads 26 = .ok (.iaload, 1) := by decide +kernel
theorem dX4_usedLoads_27 : decode cX4_usedLoads 27 = .ok (.iadd, 1) := by decide +kernel
theorem dX4_usedLoads_28 : decode cX4_usedLoads 28 = .ok (.istore_n 1, 1) := by decide +kernel
theorem dX4_usedLoads_29 : decode cX4_usedLoads 29 = .ok (.iinc 2 1, 3) := by decide +kernel
theorem dX4_usedLoads_32 : decode cX4_usedLoads 32 = .ok (.goto (-28), 3) := by decide +kernel
theorem dX4_usedLoads_35 : decode cX4_usedLoads 35 = .ok (.iload_n 1, 1) := by decide +kernel
theorem dX4_usedLoads_36 : decode cX4_usedLoads 36 = .ok (.ireturn, 1) := by decide +kernel
theorem dX4_stock_0 : decode cX4_stock 0 = .ok (.aload_n 0, 1) := by decide +kernel
theorem dX4_stock_1 : decode cX4_stock 1 = .ok (.aload_n 0, 1) := by decide +kernel
theorem dX4_stock_2 : decode cX4_stock 2 = .ok (.getfield 56, 3) := by decide +kernel
theorem dX4_stock_5 : decode cX4_stock 5 = .ok (.invokevirtual 106, 3) := by decide +kernel
theorem dX4_stock_8 : decode cX4_stock 8 = .ok (.aload_n 0, 1) := by decide +kernel
theorem dX4_stock_9 : decode cX4_stock 9 = .ok (.invokevirtual 90, 3) := by decide +kernel
theorem dX4_stock_12 : decode cX4_stock 12 = .ok (.isub, 1) := by decide +kernel
theorem dX4_stock_13 : decode cX4_stock 13 = .ok (.ireturn, 1) := by decide +kernel
theorem dX4_edges_0 : decode cX4_edges 0 = .ok (.iconst 3, 1) := by decide +kernel
theorem dX4_edges_1 : decode cX4_edges 1 = .ok (.aload_n 0, 1) := by decide +kernel
theorem dX4_edges_2 : decode cX4_edges 2 = .ok (.getfield 53, 3) := by decide +kernel
theorem dX4_edges_5 : decode cX4_edges 5 = .ok (.imul, 1) := by decide +kernel
theorem dX4_edges_6 : decode cX4_edges 6 = .ok (.ireturn, 1) := by decide +kernel
theorem dX4_across_0 : decode cX4_across 0 = .ok (.iload_n 1, 1) := by decide +kernel
theorem dX4_across_1 : decode cX4_across 1 = .ok (.iconst 3, 1) := by decide +kernel
theorem dX4_across_2 : decode cX4_across 2 = .ok (.idiv, 1) := by decide +kernel
theorem dX4_across_3 : decode cX4_across 3 = .ok (.istore_n 2, 1) := by decide +kernel
theorem dX4_across_4 : decode cX4_across 4 = .ok (.iload_n 1, 1) := by decide +kernel
theorem dX4_across_5 : decode cX4_across 5 = .ok (.ifCond .lt 19, 3) := by decide +kernel
theorem dX4_across_8 : decode cX4_across 8 = .ok (.iload_n 2, 1) := by decide +kernel
theorem dX4_across_9 : decode cX4_across 9 = .ok (.aload_n 0, 1) := by decide +kernel
theorem dX4_across_10 : decode cX4_across 10 = .ok (.getfield 53, 3) := by decide +kernel
theorem dX4_across_13 : decode cX4_across 13 = .ok (.if_icmp .ge 11, 3) := by decide +kernel
theorem dX4_across_16 : decode cX4_across 16 = .ok (.aload_n 0, 1) := by decide +kernel
theorem dX4_across_17 : decode cX4_across 17 = .ok (.getfield 41, 3) := by decide +kernel
theorem dX4_across_20 : decode cX4_across 20 = .ok (.iconst 1, 1) := by decide +kernel
theorem dX4_across_21 : decode cX4_across 21 = .ok (.if_icmp .ge 5, 3) := by decide +kernel
theorem dX4_across_24 : decode cX4_across 24 = .ok (.iconst (-1), 1) := by decide +kernel
theorem dX4_across_25 : decode cX4_across 25 = .ok (.ireturn, 1) := by decide +kernel
theorem dX4_across_26 : decode cX4_across 26 = .ok (.iload_n 2, 1) := by decide +kernel
theorem dX4_across_27 : decode cX4_across 27 = .ok (.aload_n 0, 1) := by decide +kernel
theorem dX4_across_28 : decode cX4_across 28 = .ok (.getfield 41, 3) := by decide +kernel
theorem dX4_across_31 : decode cX4_across 31 = .ok (.irem, 1) := by decide +kernel
theorem dX4_across_32 : decode cX4_across 32 = .ok (.istore_n 3, 1) := by decide +kernel
theorem dX4_across_33 : decode cX4_across 33 = .ok (.iload_n 1, 1) := by decide +kernel
theorem dX4_across_34 : decode cX4_across 34 = .ok (.iconst 3, 1) := by decide +kernel
theorem dX4_across_35 : decode cX4_across 35 = .ok (.irem, 1) := by decide +kernel
theorem dX4_across_36 : decode cX4_across 36 = .ok (.lookupswitch 70 #[(0, 28), (1, 52)], 28) := by decide +kernel
theorem dX4_across_64 : decode cX4_across 64 = .ok (.iload_n 2, 1) := by decide +kernel
theorem dX4_across_65 : decode cX4_across 65 = .ok (.aload_n 0, 1) := by decide +kernel
theorem dX4_across_66 : decode cX4_across 66 = .ok (.getfield 41, 3) := by decide +kernel
theorem dX4_across_69 : decode cX4_across 69 = .ok (.iadd, 1) := by decide +kernel
theorem dX4_across_70 : decode cX4_across 70 = .ok (.aload_n 0, 1) := by decide +kernel
theorem dX4_across_71 : decode cX4_across 71 = .ok (.getfield 53, 3) := by decide +kernel
theorem dX4_across_74 : decode cX4_across 74 = .ok (.if_icmp .ge 12, 3) := by decide +kernel
theorem dX4_across_77 : decode cX4_across 77 = .ok (.iload_n 2, 1) := by decide +kernel
theorem dX4_across_78 : decode cX4_across 78 = .ok (.aload_n 0, 1) := by decide +kernel
theorem dX4_across_79 : decode cX4_across 79 = .ok (.getfield 41, 3) := by decide +kernel
theorem dX4_across_82 : decode cX4_across 82 = .ok (.iadd, 1) := by decide +kernel
theorem dX4_across_83 : decode cX4_across 83 = .ok (.goto 4, 3) := by decide +kernel
theorem dX4_across_86 : decode cX4_across 86 = .ok (.iconst (-1), 1) := by decide +kernel
theorem dX4_across_87 : decode cX4_across 87 = .ok (.ireturn, 1) := by decide +kernel
theorem dX4_across_88 : decode cX4_across 88 = .ok (.iload_n 3, 1) := by decide +kernel
theorem dX4_across_89 : decode cX4_across 89 = .ok (.iconst 1, 1) := by decide +kernel
theorem dX4_across_90 : decode cX4_across 90 = .ok (.iadd, 1) := by decide +kernel
theorem dX4_across_91 : decode cX4_across 91 = .ok (.aload_n 0, 1) := by decide +kernel
theorem dX4_across_92 : decode cX4_across 92 = .ok (.getfield 41, 3) := by decide +kernel
theorem dX4_across_95 : decode cX4_across 95 = .ok (.if_icmp .ge 9, 3) := by decide +kernel
theorem dX4_across_98 : decode cX4_across 98 = .ok (.iload_n 2, 1) := by decide +kernel
theorem dX4_across_99 : decode cX4_across 99 = .ok (.iconst 1, 1) := by decide +kernel
theorem dX4_across_100 : decode cX4_across 100 = .ok (.iadd, 1) := by decide +kernel
theorem dX4_across_101 : decode cX4_across 101 = .ok (.goto 4, 3) := by decide +kernel
theorem dX4_across_104 : decode cX4_across 104 = .ok (.iconst (-1), 1) := by decide +kernel
theorem dX4_across_105 : decode cX4_across 105 = .ok (.ireturn, 1) := by decide +kernel
theorem dX4_across_106 : decode cX4_across 106 = .ok (.iload_n 3, 1) := by decide +kernel
theorem dX4_across_107 : decode cX4_across 107 = .ok (.ifCond .le 9, 3) := by decide +kernel
theorem dX4_across_110 : decode cX4_across 110 = .ok (.iload_n 2, 1) := by decide +kernel
theorem dX4_across_111 : decode cX4_across 111 = .ok (.iconst 1, 1) := by decide +kernel
theorem dX4_across_112 : decode cX4_across 112 = .ok (.isub, 1) := by decide +kernel
theorem dX4_across_113 : decode cX4_across 113 = .ok (.goto 4, 3) := by decide +kernel
theorem dX4_across_116 : decode cX4_across 116 = .ok (.iconst (-1), 1) := by decide +kernel
theorem dX4_across_117 : decode cX4_across 117 = .ok (.ireturn, 1) := by decide +kernel
theorem dX4_isEdge_0 : decode cX4_isEdge 0 = .ok (.aload_n 0, 1) := by decide +kernel
theorem dX4_isEdge_1 : decode cX4_isEdge 1 = .ok (.iload_n 1, 1) := by decide +kernel
theorem dX4_isEdge_2 : decode cX4_isEdge 2 = .ok (.invokevirtual 109, 3) := by decide +kernel
theorem dX4_isEdge_5 : decode cX4_isEdge 5 = .ok (.iconst (-1), 1) := by decide +kernel
theorem dX4_isEdge_6 : decode cX4_isEdge 6 = .ok (.if_icmp .eq 7, 3) := by decide +kernel
theorem dX4_isEdge_9 : decode cX4_isEdge 9 = .ok (.iconst 1, 1) := by decide +kernel
theorem dX4_isEdge_10 : decode cX4_isEdge 10 = .ok (.goto 4, 3) := by decide +kernel
theorem dX4_isEdge_13 : decode cX4_isEdge 13 = .ok (.iconst 0, 1) := by decide +kernel
theorem dX4_isEdge_14 : decode cX4_isEdge 14 = .ok (.ireturn, 1) := by decide +kernel
theorem dX4_isOpen_0 : decode cX4_isOpen 0 = .ok (.aload_n 0, 1) := by decide +kernel
theorem dX4_isOpen_1 : decode cX4_isOpen 1 = .ok (.iload_n 1, 1) := by decide +kernel
theorem dX4_isOpen_2 : decode cX4_isOpen 2 = .ok (.invokevirtual 109, 3) := by decide +kernel
theorem dX4_isOpen_5 : decode cX4_isOpen 5 = .ok (.istore_n 2, 1) := by decide +kernel
theorem dX4_isOpen_6 : decode cX4_isOpen 6 = .ok (.iload_n 2, 1) := by decide +kernel
theorem dX4_isOpen_7 : decode cX4_isOpen 7 = .ok (.iconst (-1), 1) := by decide +kernel
theorem dX4_isOpen_8 : decode cX4_isOpen 8 = .ok (.if_icmp .eq 25, 3) := by decide +kernel
theorem dX4_isOpen_11 : decode cX4_isOpen 11 = .ok (.aload_n 0, 1) := by decide +kernel
theorem dX4_isOpen_12 : decode cX4_isOpen 12 = .ok (.iload_n 1, 1) := by decide +kernel
theorem dX4_isOpen_13 : decode cX4_isOpen 13 = .ok (.iconst 3, 1) := by decide +kernel
theorem dX4_isOpen_14 : decode cX4_isOpen 14 = .ok (.idiv, 1) := by decide +kernel
theorem dX4_isOpen_15 : decode cX4_isOpen 15 = .ok (.invokevirtual 70, 3) := by decide +kernel
theorem dX4_isOpen_18 : decode cX4_isOpen 18 = .ok (.ifCond .eq 15, 3) := by decide +kernel
theorem dX4_isOpen_21 : decode cX4_isOpen 21 = .ok (.aload_n 0, 1) := by decide +kernel
theorem dX4_isOpen_22 : decode cX4_isOpen 22 = .ok (.iload_n 2, 1) := by decide +kernel
theorem dX4_isOpen_23 : decode cX4_isOpen 23 = .ok (.invokevirtual 70, 3) := by decide +kernel
theorem dX4_isOpen_26 : decode cX4_isOpen 26 = .ok (.ifCond .ne 7, 3) := by decide +kernel
theorem dX4_isOpen_29 : decode cX4_isOpen 29 = .ok (.iconst 1, 1) := by decide +kernel
theorem dX4_isOpen_30 : decode cX4_isOpen 30 = .ok (.goto 4, 3) := by decide +kernel
theorem dX4_isOpen_33 : decode cX4_isOpen 33 = .ok (.iconst 0, 1) := by decide +kernel
theorem dX4_isOpen_34 : decode cX4_isOpen 34 = .ok (.ireturn, 1) := by decide +kernel
theorem dX4_ageOf_0 : decode cX4_ageOf 0 = .ok (.iload_n 1, 1) := by decide +kernel
theorem dX4_ageOf_1 : decode cX4_ageOf 1 = .ok (.iconst 3, 1) := by decide +kernel
theorem dX4_ageOf_2 : decode cX4_ageOf 2 = .ok (.idiv, 1) := by decide +kernel
theorem dX4_ageOf_3 : decode cX4_ageOf 3 = .ok (.istore_n 2, 1) := by decide +kernel
theorem dX4_ageOf_4 : decode cX4_ageOf 4 = .ok (.aload_n 0, 1) := by decide +kernel
theorem dX4_ageOf_5 : decode cX4_ageOf 5 = .ok (.iload_n 1, 1) := by decide +kernel
theorem dX4_ageOf_6 : decode cX4_ageOf 6 = .ok (.invokevirtual 109, 3) := by decide +kernel
theorem dX4_ageOf_9 : decode cX4_ageOf 9 = .ok (.istore_n 3, 1) := by decide +kernel
theorem dX4_ageOf_10 : decode cX4_ageOf 10 = .ok (.aload_n 0, 1) := by decide +kernel
theorem dX4_ageOf_11 : decode cX4_ageOf 11 = .ok (.iload_n 3, 1) := by decide +kernel
theorem dX4_ageOf_12 : decode cX4_ageOf 12 = .ok (.invokevirtual 87, 3) := by decide +kernel
theorem dX4_ageOf_15 : decode cX4_ageOf 15 = .ok (.ifCond .eq 11, 3) := by decide +kernel
theorem dX4_ageOf_18 : decode cX4_ageOf 18 = .ok (.aload_n 0, 1) := by decide +kernel
theorem dX4_ageOf_19 : decode cX4_ageOf 19 = .ok (.iload_n 2, 1) := by decide +kernel
theorem dX4_ageOf_20 : decode cX4_ageOf 20 = .ok (.invokevirtual 70, 3) := by decide +kernel
theorem dX4_ageOf_23 : decode cX4_ageOf 23 = .ok (.ifCond .ne 5, 3) := by decide +kernel
theorem dX4_ageOf_26 : decode cX4_ageOf 26 = .ok (.iconst (-1), 1) := by decide +kernel
theorem dX4_ageOf_27 : decode cX4_ageOf 27 = .ok (.ireturn, 1) := by decide +kernel
theorem dX4_ageOf_28 : decode cX4_ageOf 28 = .ok (.aload_n 0, 1) := by decide +kernel
theorem dX4_ageOf_29 : decode cX4_ageOf 29 = .ok (.iload_n 3, 1) := by decide +kernel
theorem dX4_ageOf_30 : decode cX4_ageOf 30 = .ok (.invokevirtual 70, 3) := by decide +kernel
theorem dX4_ageOf_33 : decode cX4_ageOf 33 = .ok (.ifCond .eq 12, 3) := by decide +kernel
theorem dX4_ageOf_36 : decode cX4_ageOf 36 = .ok (.aload_n 0, 1) := by decide +kernel
theorem dX4_ageOf_37 : decode cX4_ageOf 37 = .ok (.getfield 25, 3) := by decide +kernel
theorem dX4_ageOf_40 : decode cX4_ageOf 40 = .ok (.iload_n 3, 1) := by decide +kernel
theorem dX4_ageOf_41 : decode cX4_ageOf 41 = .ok (.iaload, 1) := by decide +kernel
theorem dX4_ageOf_42 : decode cX4_ageOf 42 = .ok (.goto 7, 3) := by decide +kernel
theorem dX4_ageOf_45 : decode cX4_ageOf 45 = .ok (.aload_n 0, 1) := by decide +kernel
theorem dX4_ageOf_46 : decode cX4_ageOf 46 = .ok (.getfield 56, 3) := by decide +kernel
theorem dX4_ageOf_49 : decode cX4_ageOf 49 = .ok (.istore 4, 2) := by decide +kernel
theorem dX4_ageOf_51 : decode cX4_ageOf 51 = .ok (.iload 4, 2) := by decide +kernel
theorem dX4_ageOf_53 : decode cX4_ageOf 53 = .ok (.aload_n 0, 1) := by decide +kernel
theorem dX4_ageOf_54 : decode cX4_ageOf 54 = .ok (.getfield 28, 3) := by decide +kernel
theorem dX4_ageOf_57 : decode cX4_ageOf 57 = .ok (.iload_n 2, 1) := by decide +kernel
theorem dX4_ageOf_58 : decode cX4_ageOf 58 = .ok (.iaload, 1) := by decide +kernel
theorem dX4_ageOf_59 : decode cX4_ageOf 59 = .ok (.isub, 1) := by decide +kernel
theorem dX4_ageOf_60 : decode cX4_ageOf 60 = .ok (.ireturn, 1) := by decide +kernel
theorem dX4_isJoint_0 : decode cX4_isJoint 0 = .ok (.aload_n 0, 1) := by decide +kernel
theorem dX4_isJoint_1 : decode cX4_isJoint 1 = .ok (.iload_n 1, 1) := by decide +kernel
theorem dX4_isJoint_2 : decode cX4_isJoint 2 = .ok (.invokevirtual 112, 3) := by decide +kernel
theorem dX4_isJoint_5 : decode cX4_isJoint 5 = .ok (.aload_n 0, 1) := by decide +kernel
theorem dX4_isJoint_6 : decode cX4_isJoint 6 = .ok (.getfield 9, 3) := by decide +kernel
theorem dX4_isJoint_9 : decode cX4_isJoint 9 = .ok (.if_icmp .le 7, 3) := by decide +kernel
theorem dX4_isJoint_12 : decode cX4_isJoint 12 = .ok (.iconst 1, 1) := by decide +kernel
theorem dX4_isJoint_13 : decode cX4_isJoint 13 = .ok (.goto 4, 3) := by decide +kernel
theorem dX4_isJoint_16 : decode cX4_isJoint 16 = .ok (.iconst 0, 1) := by decide +kernel
theorem dX4_isJoint_17 : decode cX4_isJoint 17 = .ok (.ireturn, 1) := by decide +kernel
theorem dX4_timeLeft_0 : decode cX4_timeLeft 0 = .ok (.aload_n 0, 1) := by decide +kernel
theorem dX4_timeLeft_1 : decode cX4_timeLeft 1 = .ok (.iload_n 1, 1) := by decide +kernel
theorem dX4_timeLeft_2 : decode cX4_timeLeft 2 = .ok (.invokevirtual 115, 3) := by decide +kernel
theorem dX4_timeLeft_5 : decode cX4_timeLeft 5 = .ok (.ifCond .eq 24, 3) := by decide +kernel
theorem dX4_timeLeft_8 : decode cX4_timeLeft 8 = .ok (.aload_n 0, 1) := by decide +kernel
theorem dX4_timeLeft_9 : decode cX4_timeLeft 9 = .ok (.iload_n 1, 1) := by decide +kernel
theorem dX4_timeLeft_10 : decode cX4_timeLeft 10 = .ok (.invokevirtual 118, 3) := by decide +kernel
theorem dX4_timeLeft_13 : decode cX4_timeLeft 13 = .ok (.ifCond .ne 16, 3) := by decide +kernel
theorem dX4_timeLeft_16 : decode cX4_timeLeft 16 = .ok (.aload_n 0, 1) := by decide +kernel
theorem dX4_timeLeft_17 : decode cX4_timeLeft 17 = .ok (.getfield 9, 3) := by decide +kernel
theorem dX4_timeLeft_20 : decode cX4_timeLeft 20 = .ok (.aload_n 0, 1) := by decide +kernel
theorem dX4_timeLeft_21 : decode cX4_timeLeft 21 = .ok (.iload_n 1, 1) := by decide +kernel
theorem dX4_timeLeft_22 : decode cX4_timeLeft 22 = .ok (.invokevirtual 112, 3) := by decide +kernel
theorem dX4_timeLeft_25 : decode cX4_timeLeft 25 = .ok (.isub, 1) := by decide +kernel
theorem dX4_timeLeft_26 : decode cX4_timeLeft 26 = .ok (.goto 6, 3) := by decide +kernel
theorem dX4_timeLeft_29 : decode cX4_timeLeft 29 = .ok (.sipush (-1000), 3) := by decide +kernel
theorem dX4_timeLeft_32 : decode cX4_timeLeft 32 = .ok (.ireturn, 1) := by decide +kernel
theorem dX4_harmOf_0 : decode cX4_harmOf 0 = .ok (.iload_n 1, 1) := by decide +kernel
theorem dX4_harmOf_1 : decode cX4_harmOf 1 = .ok (.iconst 3, 1) := by decide +kernel
theorem dX4_harmOf_2 : decode cX4_harmOf 2 = .ok (.irem, 1) := by decide +kernel
theorem dX4_harmOf_3 : decode cX4_harmOf 3 = .ok (.ifCond .ne 10, 3) := by decide +kernel
theorem dX4_harmOf_6 : decode cX4_harmOf 6 = .ok (.aload_n 0, 1) := by decide +kernel
theorem dX4_harmOf_7 : decode cX4_harmOf 7 = .ok (.getfield 15, 3) := by decide +kernel
theorem dX4_harmOf_10 : decode cX4_harmOf 10 = .ok (.goto 7, 3) := by decide +kernel
theorem dX4_harmOf_13 : decode cX4_harmOf 13 = .ok (.aload_n 0, 1) := by decide +kernel
theorem dX4_harmOf_14 : decode cX4_harmOf 14 = .ok (.getfield 18, 3) := by decide +kernel
theorem dX4_harmOf_17 : decode cX4_harmOf 17 = .ok (.ireturn, 1) := by decide +kernel
theorem dX4_joints_0 : decode cX4_joints 0 = .ok (.iconst 0, 1) := by decide +kernel
theorem dX4_joints_1 : decode cX4_joints 1 = .ok (.istore_n 1, 1) := by decide +kernel
theorem dX4_joints_2 : decode cX4_joints 2 = .ok (.iconst 0, 1) := by decide +kernel
theorem dX4_joints_3 : decode cX4_joints 3 = .ok (.istore_n 2, 1) := by decide +kernel
theorem dX4_joints_4 : decode cX4_joints 4 = .ok (.iload_n 2, 1) := by decide +kernel
theorem dX4_joints_5 : decode cX4_joints 5 = .ok (.aload_n 0, 1) := by decide +kernel
theorem dX4_joints_6 : decode cX4_joints 6 = .ok (.invokevirtual 121, 3) := by decide +kernel
theorem dX4_joints_9 : decode cX4_joints 9 = .ok (.if_icmp .ge 20, 3) := by decide +kernel
theorem dX4_joints_12 : decode cX4_joints 12 = .ok (.aload_n 0, 1) := by decide +kernel
theorem dX4_joints_13 : decode cX4_joints 13 = .ok (.iload_n 2, 1) := by decide +kernel
theorem dX4_joints_14 : decode cX4_joints 14 = .ok (.invokevirtual 118, 3) := by decide +kernel
theorem dX4_joints_17 : decode cX4_joints 17 = .ok (.ifCond .eq 6, 3) := by decide +kernel
theorem dX4_joints_20 : decode cX4_joints 20 = .ok (.iinc 1 1, 3) := by decide +kernel
theorem dX4_joints_23 : decode cX4_joints 23 = .ok (.iinc 2 1, 3) := by decide +kernel
theorem dX4_joints_26 : decode cX4_joints 26 = .ok (.goto (-22), 3) := by decide +kernel
theorem dX4_joints_29 : decode cX4_joints 29 = .ok (.iload_n 1, 1) := by decide +kernel
theorem dX4_joints_30 : decode cX4_joints 30 = .ok (.ireturn, 1) := by decide +kernel
theorem dX4_harm_0 : decode cX4_harm 0 = .ok (.iconst 0, 1) := by decide +kernel
theorem dX4_harm_1 : decode cX4_harm 1 = .ok (.istore_n 1, 1) := by decide +kernel
theorem dX4_harm_2 : decode cX4_harm 2 = .ok (.iconst 0, 1) := by decide +kernel
theorem dX4_harm_3 : decode cX4_harm 3 = .ok (.istore_n 2, 1) := by decide +kernel
theorem dX4_harm_4 : decode cX4_harm 4 = .ok (.iload_n 2, 1) := by decide +kernel
theorem dX4_harm_5 : decode cX4_harm 5 = .ok (.aload_n 0, 1) := by decide +kernel
theorem dX4_harm_6 : decode cX4_harm 6 = .ok (.invokevirtual 121, 3) := by decide +kernel
theorem dX4_harm_9 : decode cX4_harm 9 = .ok (.if_icmp .ge 25, 3) := by decide +kernel
theorem dX4_harm_12 : decode cX4_harm 12 = .ok (.aload_n 0, 1) := by decide +kernel
theorem dX4_harm_13 : decode cX4_harm 13 = .ok (.iload_n 2, 1) := by decide +kernel
theorem dX4_harm_14 : decode cX4_harm 14 = .ok (.invokevirtual 118, 3) := by decide +kernel
theorem dX4_harm_17 : decode cX4_harm 17 = .ok (.ifCond .eq 11, 3) := by decide +kernel
theorem dX4_harm_20 : decode cX4_harm 20 = .ok (.iload_n 1, 1) := by decide +kernel
theorem dX4_harm_21 : decode cX4_harm 21 = .ok (.aload_n 0, 1) := by decide +kernel
theorem dX4_harm_22 : decode cX4_harm 22 = .ok (.iload_n 2, 1) := by decide +kernel
theorem dX4_harm_23 : decode cX4_harm 23 = .ok (.invokevirtual 124, 3) := by decide +kernel
theorem dX4_harm_26 : decode cX4_harm 26 = .ok (.iadd, 1) := by decide +kernel
theorem dX4_harm_27 : decode cX4_harm 27 = .ok (.istore_n 1, 1) := by decide +kernel
theorem dX4_harm_28 : decode cX4_harm 28 = .ok (.iinc 2 1, 3) := by decide +kernel
theorem dX4_harm_31 : decode cX4_harm 31 = .ok (.goto (-27), 3) := by decide +kernel
theorem dX4_harm_34 : decode cX4_harm 34 = .ok (.iload_n 1, 1) := by decide +kernel
theorem dX4_harm_35 : decode cX4_harm 35 = .ok (.ireturn, 1) := by decide +kernel
theorem dX4_stoppedHarm_0 : decode cX4_stoppedHarm 0 = .ok (.iconst 0, 1) := by decide +kernel
theorem dX4_stoppedHarm_1 : decode cX4_stoppedHarm 1 = .ok (.istore_n 1, 1) := by decide +kernel
theorem dX4_stoppedHarm_2 : decode cX4_stoppedHarm 2 = .ok (.iconst 0, 1) := by decide +kernel
theorem dX4_stoppedHarm_3 : decode cX4_stoppedHarm 3 = .ok (.istore_n 2, 1) := by decide +kernel
theorem dX4_stoppedHarm_4 : decode cX4_stoppedHarm 4 = .ok (.iload_n 2, 1) := by decide +kernel
theorem dX4_stoppedHarm_5 : decode cX4_stoppedHarm 5 = .ok (.aload_n 0, 1) := by decide +kernel
theorem dX4_stoppedHarm_6 : decode cX4_stoppedHarm 6 = .ok (.invokevirtual 121, 3) := by decide +kernel
theorem dX4_stoppedHarm_9 : decode cX4_stoppedHarm 9 = .ok (.if_icmp .ge 33, 3) := by decide +kernel
theorem dX4_stoppedHarm_12 : decode cX4_stoppedHarm 12 = .ok (.aload_n 0, 1) := by decide +kernel
theorem dX4_stoppedHarm_13 : decode cX4_stoppedHarm 13 = .ok (.iload_n 2, 1) := by decide +kernel
theorem dX4_stoppedHarm_14 : decode cX4_stoppedHarm 14 = .ok (.invokevirtual 115, 3) := by decide +kernel
theorem dX4_stoppedHarm_17 : decode cX4_stoppedHarm 17 = .ok (.ifCond .ne 11, 3) := by decide +kernel
theorem dX4_stoppedHarm_20 : decode cX4_stoppedHarm 20 = .ok (.aload_n 0, 1) := by decide +kernel
theorem dX4_stoppedHarm_21 : decode cX4_stoppedHarm 21 = .ok (.iload_n 2, 1) := by decide +kernel
theorem dX4_stoppedHarm_22 : decode cX4_stoppedHarm 22 = .ok (.invokevirtual 118, 3) := by decide +kernel
theorem dX4_stoppedHarm_25 : decode cX4_stoppedHarm 25 = .ok (.ifCond .eq 11, 3) := by decide +kernel
theorem dX4_stoppedHarm_28 : decode cX4_stoppedHarm 28 = .ok (.iload_n 1, 1) := by decide +kernel
theorem dX4_stoppedHarm_29 : decode cX4_stoppedHarm 29 = .ok (.aload_n 0, 1) := by decide +kernel
theorem dX4_stoppedHarm_30 : decode cX4_stoppedHarm 30 = .ok (.iload_n 2, 1) := by decide +kernel
theorem dX4_stoppedHarm_31 : decode cX4_stoppedHarm 31 = .ok (.invokevirtual 124, 3) := by decide +kernel
theorem dX4_stoppedHarm_34 : decode cX4_stoppedHarm 34 = .ok (.iadd, 1) := by decide +kernel
theorem dX4_stoppedHarm_35 : decode cX4_stoppedHarm 35 = .ok (.istore_n 1, 1) := by decide +kernel
theorem dX4_stoppedHarm_36 : decode cX4_stoppedHarm 36 = .ok (.iinc 2 1, 3) := by decide +kernel
theorem dX4_stoppedHarm_39 : decode cX4_stoppedHarm 39 = .ok (.goto (-35), 3) := by decide +kernel
theorem dX4_stoppedHarm_42 : decode cX4_stoppedHarm 42 = .ok (.iload_n 1, 1) := by decide +kernel
theorem dX4_stoppedHarm_43 : decode cX4_stoppedHarm 43 = .ok (.ireturn, 1) := by decide +kernel
theorem dX4_firstToSet_0 : decode cX4_firstToSet 0 = .ok (.iconst (-1), 1) := by decide +kernel
theorem dX4_firstToSet_1 : decode cX4_firstToSet 1 = .ok (.istore_n 1, 1) := by decide +kernel
theorem dX4_firstToSet_2 : decode cX4_firstToSet 2 = .ok (.ldc 127, 2) := by decide +kernel
theorem dX4_firstToSet_4 : decode cX4_firstToSet 4 = .ok (.istore_n 2, 1) := by decide +kernel
theorem dX4_firstToSet_5 : decode cX4_firstToSet 5 = .ok (.iconst 0, 1) := by decide +kernel
theorem dX4_firstToSet_6 : decode cX4_firstToSet 6 = .ok (.istore_n 3, 1) := by decide +kernel
theorem dX4_firstToSet_7 : decode cX4_firstToSet 7 = .ok (.iload_n 3, 1) := by decide +kernel
theorem dX4_firstToSet_8 : decode cX4_firstToSet 8 = .ok (.aload_n 0, 1) := by decide +kernel
theorem dX4_firstToSet_9 : decode cX4_firstToSet 9 = .ok (.invokevirtual 121, 3) := by decide +kernel
theorem dX4_firstToSet_12 : decode cX4_firstToSet 12 = .ok (.if_icmp .ge 35, 3) := by decide +kernel
theorem dX4_firstToSet_15 : decode cX4_firstToSet 15 = .ok (.aload_n 0, 1) := by decide +kernel
theorem dX4_firstToSet_16 : decode cX4_firstToSet 16 = .ok (.iload_n 3, 1) := by decide +kernel
theorem dX4_firstToSet_17 : decode cX4_firstToSet 17 = .ok (.invokevirtual 128, 3) := by decide +kernel
theorem dX4_firstToSet_20 : decode cX4_firstToSet 20 = .ok (.istore 4, 2) := by decide +kernel
theorem dX4_firstToSet_22 : decode cX4_firstToSet 22 = .ok (.iload 4, 2) := by decide +kernel
theorem dX4_firstToSet_24 : decode cX4_firstToSet 24 = .ok (.sipush (-1000), 3) := by decide +kernel
theorem dX4_firstToSet_27 : decode cX4_firstToSet 27 = .ok (.if_icmp .eq 14, 3) := by decide +kernel
theorem dX4_firstToSet_30 : decode cX4_firstToSet 30 = .ok (.iload 4, 2) := by decide +kernel
theorem dX4_firstToSet_32 : decode cX4_firstToSet 32 = .ok (.iload_n 2, 1) := by decide +kernel
theorem dX4_firstToSet_33 : decode cX4_firstToSet 33 = .ok (.if_icmp .ge 8, 3) := by decide +kernel
theorem dX4_firstToSet_36 : decode cX4_firstToSet 36 = .ok (.iload 4, 2) := by decide +kernel
theorem dX4_firstToSet_38 : decode cX4_firstToSet 38 = .ok (.istore_n 2, 1) := by decide +kernel
theorem dX4_firstToSet_39 : decode cX4_firstToSet 39 = .ok (.iload_n 3, 1) := by decide +kernel
theorem dX4_firstToSet_40 : decode cX4_firstToSet 40 = .ok (.istore_n 1, 1) := by decide +kernel
theorem dX4_firstToSet_41 : decode cX4_firstToSet 41 = .ok (.iinc 3 1, 3) := by decide +kernel
theorem dX4_firstToSet_44 : decode cX4_firstToSet 44 = .ok (.goto (-37), 3) := by decide +kernel
theorem dX4_firstToSet_47 : decode cX4_firstToSet 47 = .ok (.iload_n 1, 1) := by decide +kernel
theorem dX4_firstToSet_48 : decode cX4_firstToSet 48 = .ok (.ireturn, 1) := by decide +kernel
end
section
theorem dX5_init_0 : decode cX5_init 0 = .ok (.aload_n 0, 1) := by decide +kernel
theorem dX5_init_1 : decode cX5_init 1 = .ok (.invokespecial 1, 3) := by decide +kernel
theorem dX5_init_4 : decode cX5_init 4 = .ok (.aload_n 0, 1) := by decide +kernel
theorem dX5_init_5 : decode cX5_init 5 = .ok (.new 7, 3) := by decide +kernel
theorem dX5_init_8 : decode cX5_init 8 = .ok (.dup, 1) := by decide +kernel
theorem dX5_init_9 : decode cX5_init 9 = .ok (.invokespecial 9, 3) := by decide +kernel
theorem dX5_init_12 : decode cX5_init 12 = .ok (.putfield 10, 3) := by decide +kernel
theorem dX5_init_15 : decode cX5_init 15 = .ok (.aload_n 0, 1) := by decide +kernel
theorem dX5_init_16 : decode cX5_init 16 = .ok (.new 7, 3) := by decide +kernel
theorem dX5_init_19 : decode cX5_init 19 = .ok (.dup, 1) := by decide +kernel
theorem dX5_init_20 : decode cX5_init 20 = .ok (.invokespecial 9, 3) := by decide +kernel
theorem dX5_init_23 : decode cX5_init 23 = .ok (.putfield 16, 3) := by decide +kernel
theorem dX5_init_26 : decode cX5_init 26 = .ok (.aload_n 0, 1) := by decide +kernel
theorem dX5_init_27 : decode cX5_init 27 = .ok (.new 19, 3) := by decide +kernel
theorem dX5_init_30 : decode cX5_init 30 = .ok (.dup, 1) := by decide +kernel
theorem dX5_init_31 : decode cX5_init 31 = .ok (.invokespecial 21, 3) := by decide +kernel
theorem dX5_init_34 : decode cX5_init 34 = .ok (.putfield 22, 3) := by decide +kernel
theorem dX5_init_37 : decode cX5_init 37 = .ok (.aload_n 0, 1) := by decide +kernel
theorem dX5_init_38 : decode cX5_init 38 = .ok (.new 19, 3) := by decide +kernel
theorem dX5_init_41 : decode cX5_init 41 = .ok (.dup, 1) := by decide +kernel
theorem dX5_init_42 : decode cX5_init 42 = .ok (.invokespecial 21, 3) := by decide +kernel
theorem dX5_init_45 : decode cX5_init 45 = .ok (.putfield 26, 3) := by decide +kernel
theorem dX5_init_48 : decode cX5_init 48 = .ok (.aload_n 0, 1) := by decide +kernel
theorem dX5_init_49 : decode cX5_init 49 = .ok (.new 29, 3) := by decide +kernel
theorem dX5_init_52 : decode cX5_init 52 = .ok (.dup, 1) := by decide +kernel
theorem dX5_init_53 : decode cX5_init 53 = .ok (.invokespecial 31, 3) := by decide +kernel
theorem dX5_init_56 : decode cX5_init 56 = .ok (.putfield 32, 3) := by decide +kernel
theorem dX5_init_59 : decode cX5_init 59 = .ok (.aload_n 0, 1) := by decide +kernel
theorem dX5_init_60 : decode cX5_init 60 = .ok (.new 36, 3) := by decide +kernel
theorem dX5_init_63 : decode cX5_init 63 = .ok (.dup, 1) := by decide +kernel
theorem dX5_init_64 : decode cX5_init 64 = .ok (.invokespecial 38, 3) := by decide +kernel
theorem dX5_init_67 : decode cX5_init 67 = .ok (.putfield 39, 3) := by decide +kernel
theorem dX5_init_70 : decode cX5_init 70 = .ok (.aload_n 0, 1) := by decide +kernel
theorem dX5_init_71 : decode cX5_init 71 = .ok (.iconst 2, 1) := by decide +kernel
theorem dX5_init_72 : decode cX5_init 72 = .ok (.anewarray 43, 3) := by decide +kernel
theorem dX5_init_75 : decode cX5_init 75 = .ok (.putfield 45, 3) := by decide +kernel
theorem dX5_init_78 : decode cX5_init 78 = .ok (.iconst 0, 1) := by decide +kernel
theorem dX5_init_79 : decode cX5_init 79 = .ok (.istore_n 1, 1) := by decide +kernel
theorem dX5_init_80 : decode cX5_init 80 = .ok (.iload_n 1, 1) := by decide +kernel
theorem dX5_init_81 : decode cX5_init 81 = .ok (.aload_n 0, 1) := by decide +kernel
theorem dX5_init_82 : decode cX5_init 82 = .ok (.getfield 45, 3) := by decide +kernel
theorem dX5_init_85 : decode cX5_init 85 = .ok (.arraylength, 1) := by decide +kernel
theorem dX5_init_86 : decode cX5_init 86 = .ok (.if_icmp .ge 22, 3) := by decide +kernel
theorem dX5_init_89 : decode cX5_init 89 = .ok (.aload_n 0, 1) := by decide +kernel
theorem dX5_init_90 : decode cX5_init 90 = .ok (.getfield 45, 3) := by decide +kernel
theorem dX5_init_93 : decode cX5_init 93 = .ok (.iload_n 1, 1) := by decide +kernel
theorem dX5_init_94 : decode cX5_init 94 = .ok (.new 43, 3) := by decide +kernel
theorem dX5_init_97 : decode cX5_init 97 = .ok (.dup, 1) := by decide +kernel
theorem dX5_init_98 : decode cX5_init 98 = .ok (.invokespecial 49, 3) := by decide +kernel
theorem dX5_init_101 : decode cX5_init 101 = .ok (.aastore, 1) := by decide +kernel
theorem dX5_init_102 : decode cX5_init 102 = .ok (.iinc 1 1, 3) := by decide +kernel
theorem dX5_init_105 : decode cX5_init 105 = .ok (.goto (-25), 3) := by decide +kernel
theorem dX5_init_108 : decode cX5_init 108 = .ok (.return_, 1) := by decide +kernel
theorem dX5_told_0 : decode cX5_told 0 = .ok (.iload_n 1, 1) := by decide +kernel
theorem dX5_told_1 : decode cX5_told 1 = .ok (.tableswitch 256 0 19 #[95, 103, 111, 119, 127, 135, 143, 151, 159, 167, 175, 183, 191, 199, 207, 215, 220, 228, 236, 248], 95) := by decide +kernel
theorem dX5_told_96 : decode cX5_told 96 = .ok (.aload_n 0, 1) := by decide +kernel
theorem dX5_told_97 : decode cX5_told 97 = .ok (.getfield 10, 3) := by decide +kernel
theorem dX5_told_100 : decode cX5_told 100 = .ok (.getfield 50, 3) := by decide +kernel
theorem dX5_told_103 : decode cX5_told 103 = .ok (.ireturn, 1) := by decide +kernel
theorem dX5_told_104 : decode cX5_told 104 = .ok (.aload_n 0, 1) := by decide +kernel
theorem dX5_told_105 : decode cX5_told 105 = .ok (.getfield 10, 3) := by decide +kernel
theorem dX5_told_108 : decode cX5_told 108 = .ok (.getfield 54, 3) := by decide +kernel
theorem dX5_told_111 : decode cX5_told 111 = .ok (.ireturn, 1) := by decide +kernel
theorem dX5_told_112 : decode cX5_told 112 = .ok (.aload_n 0, 1) := by decide +kernel
theorem dX5_told_113 : decode cX5_told 113 = .ok (.getfield 10, 3) := by decide +kernel
theorem dX5_told_116 : decode cX5_told 116 = .ok (.getfield 57, 3) := by decide +kernel
theorem dX5_told_119 : decode cX5_told 119 = .ok (.ireturn, 1) := by decide +kernel
theorem dX5_told_120 : decode cX5_told 120 = .ok (.aload_n 0, 1) := by decide +kernel
theorem dX5_told_121 : decode cX5_told 121 = .ok (.getfield 10, 3) := by decide +kernel
theorem dX5_told_124 : decode cX5_told 124 = .ok (.getfield 60, 3) := by decide +kernel
theorem dX5_told_127 : decode cX5_told 127 = .ok (.ireturn, 1) := by decide +kernel
theorem dX5_told_128 : decode cX5_told 128 = .ok (.aload_n 0, 1) := by decide +kernel
theorem dX5_told_129 : decode cX5_told 129 = .ok (.getfield 10, 3) := by decide +kernel
theorem dX5_told_132 : decode cX5_told 132 = .ok (.invokevirtual 63, 3) := by decide +kernel
theorem dX5_told_135 : decode cX5_told 135 = .ok (.ireturn, 1) := by decide +kernel
theorem dX5_told_136 : decode cX5_told 136 = .ok (.aload_n 0, 1) := by decide +kernel
theorem dX5_told_137 : decode cX5_told 137 = .ok (.getfield 10, 3) := by decide +kernel
theorem dX5_told_140 : decode cX5_told 140 = .ok (.invokevirtual 67, 3) := by decide +kernel
theorem dX5_told_143 : decode cX5_told 143 = .ok (.ireturn, 1) := by decide +kernel
theorem dX5_told_144 : decode cX5_told 144 = .ok (.aload_n 0, 1) := by decide +kernel
theorem dX5_told_145 : decode cX5_told 145 = .ok (.getfield 10, 3) := by decide +kernel
theorem dX5_told_148 : decode cX5_told 148 = .ok (.invokevirtual 70, 3) := by decide +kernel
theorem dX5_told_151 : decode cX5_told 151 = .ok (.ireturn, 1) := by decide +kernel
theorem dX5_told_152 : decode cX5_told 152 = .ok (.aload_n 0, 1) := by decide +kernel
theorem dX5_told_153 : decode cX5_told 153 = .ok (.getfield 10, 3) := by decide +kernel
theorem dX5_told_156 : decode cX5_told 156 = .ok (.getfield 73, 3) := by decide +kernel
theorem dX5_told_159 : decode cX5_told 159 = .ok (.ireturn, 1) := by decide +kernel
theorem dX5_told_160 : decode cX5_told 160 = .ok (.aload_n 0, 1) := by decide +kernel
theorem dX5_told_161 : decode cX5_told 161 = .ok (.getfield 10, 3) := by decide +kernel
theorem dX5_told_164 : decode cX5_told 164 = .ok (.getfield 76, 3) := by decide +kernel
theorem dX5_told_167 : decode cX5_told 167 = .ok (.ireturn, 1) := by decide +kernel
theorem dX5_told_168 : decode cX5_told 168 = .ok (.aload_n 0, 1) := by decide +kernel
theorem dX5_told_169 : decode cX5_told 169 = .ok (.getfield 10, 3) := by decide +kernel
theorem dX5_told_172 : decode cX5_told 172 = .ok (.getfield 79, 3) := by decide +kernel
theorem dX5_told_175 : decode cX5_told 175 = .ok (.ireturn, 1) := by decide +kernel
theorem dX5_told_176 : decode cX5_told 176 = .ok (.aload_n 0, 1) := by decide +kernel
theorem dX5_told_177 : decode cX5_told 177 = .ok (.getfield 10, 3) := by decide +kernel
theorem dX5_told_180 : decode cX5_told 180 = .ok (.invokevirtual 82, 3) := by decide +kernel
theorem dX5_told_183 : decode cX5_told 183 = .ok (.ireturn, 1) := by decide +kernel
theorem dX5_told_184 : decode cX5_told 184 = .ok (.aload_n 0, 1) := by decide +kernel
theorem dX5_told_185 : decode cX5_told 185 = .ok (.getfield 10, 3) := by decide +kernel
theorem dX5_told_188 : decode cX5_told 188 = .ok (.invokevirtual 85, 3) := by decide +kernel
theorem dX5_told_191 : decode cX5_told 191 = .ok (.ireturn, 1) := by decide +kernel
theorem dX5_told_192 : decode cX5_told 192 = .ok (.aload_n 0, 1) := by decide +kernel
theorem dX5_told_193 : decode cX5_told 193 = .ok (.getfield 10, 3) := by decide +kernel
theorem dX5_told_196 : decode cX5_told 196 = .ok (.invokevirtual 88, 3) := by decide +kernel
theorem dX5_told_199 : decode cX5_told 199 = .ok (.ireturn, 1) := by decide +kernel
theorem dX5_told_200 : decode cX5_told 200 = .ok (.aload_n 0, 1) := by decide +kernel
theorem dX5_told_201 : decode cX5_told 201 = .ok (.invokevirtual 91, 3) := by decide +kernel
theorem dX5_told_204 : decode cX5_told 204 = .ok (.invokevirtual 95, 3) := by decide +kernel
theorem dX5_told_207 : decode cX5_told 207 = .ok (.ireturn, 1) := by decide +kernel
theorem dX5_told_208 : decode cX5_told 208 = .ok (.aload_n 0, 1) := by decide +kernel
theorem dX5_told_209 : decode cX5_told 209 = .ok (.invokevirtual 91, 3) := by decide +kernel
theorem dX5_told_212 : decode cX5_told 212 = .ok (.invokevirtual 98, 3) := by decide +kernel
theorem dX5_told_215 : decode cX5_told 215 = .ok (.ireturn, 1) := by decide +kernel
theorem dX5_told_216 : decode cX5_told 216 = .ok (.aload_n 0, 1) := by decide +kernel
theorem dX5_told_217 : decode cX5_told 217 = .ok (.invokevirtual 101, 3) := by decide +kernel
theorem dX5_told_220 : decode cX5_told 220 = .ok (.ireturn, 1) := by decide +kernel
theorem dX5_told_221 : decode cX5_told 221 = .ok (.aload_n 0, 1) := by decide +kernel
theorem dX5_told_222 : decode cX5_told 222 = .ok (.getfield 10, 3) := by decide +kernel
theorem dX5_told_225 : decode cX5_told 225 = .ok (.invokevirtual 104, 3) := by decide +kernel
theorem dX5_told_228 : decode cX5_told 228 = .ok (.ireturn, 1) := by decide +kernel
theorem dX5_told_229 : decode cX5_told 229 = .ok (.aload_n 0, 1) := by decide +kernel
theorem dX5_told_230 : decode cX5_told 230 = .ok (.getfield 39, 3) := by decide +kernel
theorem dX5_told_233 : decode cX5_told 233 = .ok (.getfield 107, 3) := by decide +kernel
theorem dX5_told_236 : decode cX5_told 236 = .ok (.ireturn, 1) := by decide +kernel
theorem dX5_told_237 : decode cX5_told 237 = .ok (.aload_n 0, 1) := by decide +kernel
theorem dX5_told_238 : decode cX5_told 238 = .ok (.getfield 39, 3) := by decide +kernel
theorem dX5_told_241 : decode cX5_told 241 = .ok (.aload_n 0, 1) := by decide +kernel
theorem dX5_told_242 : decode cX5_told 242 = .ok (.getfield 10, 3) := by decide +kernel
theorem dX5_told_245 : decode cX5_told 245 = .ok (.invokevirtual 110, 3) := by decide +kernel
theorem dX5_told_248 : decode cX5_told 248 = .ok (.ireturn, 1) := by decide +kernel
theorem dX5_told_249 : decode cX5_told 249 = .ok (.aload_n 0, 1) := by decide +kernel
theorem dX5_told_250 : decode cX5_told 250 = .ok (.getfield 32, 3) := by decide +kernel
theorem dX5_told_253 : decode cX5_told 253 = .ok (.getfield 114, 3) := by decide +kernel
theorem dX5_told_256 : decode cX5_told 256 = .ok (.ireturn, 1) := by decide +kernel
theorem dX5_told_257 : decode cX5_told 257 = .ok (.ldc 117, 2) := by decide +kernel
theorem dX5_told_259 : decode cX5_told 259 = .ok (.ireturn, 1) := by decide +kernel
theorem dX5_cell_0 : decode cX5_cell 0 = .ok (.aload_n 0, 1) := by decide +kernel
theorem dX5_cell_1 : decode cX5_cell 1 = .ok (.getfield 10, 3) := by decide +kernel
theorem dX5_cell_4 : decode cX5_cell 4 = .ok (.iload_n 1, 1) := by decide +kernel
theorem dX5_cell_5 : decode cX5_cell 5 = .ok (.invokevirtual 118, 3) := by decide +kernel
theorem dX5_cell_8 : decode cX5_cell 8 = .ok (.ifCond .ne 6, 3) := by decide +kernel
theorem dX5_cell_11 : decode cX5_cell 11 = .ok (.ldc 122, 2) := by decide +kernel
theorem dX5_cell_13 : decode cX5_cell 13 = .ok (.ireturn, 1) := by decide +kernel
theorem dX5_cell_14 : decode cX5_cell 14 = .ok (.iload_n 2, 1) := by decide +kernel
theorem dX5_cell_15 : decode cX5_cell 15 = .ok (.tableswitch 78 0 4 #[33, 43, 53, 63, 72], 33) := by decide +kernel
theorem dX5_cell_48 : decode cX5_cell 48 = .ok (.aload_n 0, 1) := by decide +kernel
theorem dX5_cell_49 : decode cX5_cell 49 = .ok (.getfield 10, 3) := by decide +kernel
theorem dX5_cell_52 : decode cX5_cell 52 = .ok (.getfield 123, 3) := by decide +kernel
theorem dX5_cell_55 : decode cX5_cell 55 = .ok (.iload_n 1, 1) := by decide +kernel
theorem dX5_cell_56 : decode cX5_cell 56 = .ok (.iaload, 1) := by decide +kernel
theorem dX5_cell_57 : decode cX5_cell 57 = .ok (.ireturn, 1) := by decide +kernel
theorem dX5_cell_58 : decode cX5_cell 58 = .ok (.aload_n 0, 1) := by decide +kernel
theorem dX5_cell_59 : decode cX5_cell 59 = .ok (.getfield 10, 3) := by decide +kernel
theorem dX5_cell_62 : decode cX5_cell 62 = .ok (.getfield 127, 3) := by decide +kernel
theorem dX5_cell_65 : decode cX5_cell 65 = .ok (.iload_n 1, 1) := by decide +kernel
theorem dX5_cell_66 : decode cX5_cell 66 = .ok (.iaload, 1) := by decide +kernel
theorem dX5_cell_67 : decode cX5_cell 67 = .ok (.ireturn, 1) := by decide +kernel
theorem dX5_cell_68 : decode cX5_cell 68 = .ok (.aload_n 0, 1) := by decide +kernel
theorem dX5_cell_69 : decode cX5_cell 69 = .ok (.getfield 10, 3) := by decide +kernel
theorem dX5_cell_72 : decode cX5_cell 72 = .ok (.getfield 130, 3) := by decide +kernel
theorem dX5_cell_75 : decode cX5_cell 75 = .ok (.iload_n 1, 1) := by decide +kernel
theorem dX5_cell_76 : decode cX5_cell 76 = .ok (.iaload, 1) := by decide +kernel
theorem dX5_cell_77 : decode cX5_cell 77 = .ok (.ireturn, 1) := by decide +kernel
theorem dX5_cell_78 : decode cX5_cell 78 = .ok (.aload_n 0, 1) := by decide +kernel
theorem dX5_cell_79 : decode cX5_cell 79 = .ok (.getfield 10, 3) := by decide +kernel
theorem dX5_cell_82 : decode cX5_cell 82 = .ok (.iload_n 1, 1) := by decide +kernel
theorem dX5_cell_83 : decode cX5_cell 83 = .ok (.invokevirtual 133, 3) := by decide +kernel
theorem dX5_cell_86 : decode cX5_cell 86 = .ok (.ireturn, 1) := by decide +kernel
theorem dX5_cell_87 : decode cX5_cell 87 = .ok (.aload_n 0, 1) := by decide +kernel
theorem dX5_cell_88 : decode cX5_cell 88 = .ok (.iload_n 1, 1) := by decide +kernel
theorem dX5_cell_89 : decode cX5_cell 89 = .ok (.invokevirtual 137, 3) := by decide +kernel
theorem dX5_cell_92 : decode cX5_cell 92 = .ok (.ireturn, 1) := by decide +kernel
theorem dX5_cell_93 : decode cX5_cell 93 = .ok (.ldc 117, 2) := by decide +kernel
theorem dX5_cell_95 : decode cX5_cell 95 = .ok (.ireturn, 1) := by decide +kernel
theorem dX5_edge_0 : decode cX5_edge 0 = .ok (.aload_n 0, 1) := by decide +kernel
theorem dX5_edge_1 : decode cX5_edge 1 = .ok (.getfield 10, 3) := by decide +kernel
theorem dX5_edge_4 : decode cX5_edge 4 = .ok (.iload_n 1, 1) := by decide +kernel
theorem dX5_edge_5 : decode cX5_edge 5 = .ok (.invokevirtual 140, 3) := by decide +kernel
theorem dX5_edge_8 : decode cX5_edge 8 = .ok (.ifCond .ne 6, 3) := by decide +kernel
theorem dX5_edge_11 : decode cX5_edge 11 = .ok (.ldc 122, 2) := by decide +kernel
theorem dX5_edge_13 : decode cX5_edge 13 = .ok (.ireturn, 1) := by decide +kernel
theorem dX5_edge_14 : decode cX5_edge 14 = .ok (.iload_n 2, 1) := by decide +kernel
theorem dX5_edge_15 : decode cX5_edge 15 = .ok (.tableswitch 68 0 2 #[25, 42, 59], 25) := by decide +kernel
theorem dX5_edge_40 : decode cX5_edge 40 = .ok (.aload_n 0, 1) := by decide +kernel
theorem dX5_edge_41 : decode cX5_edge 41 = .ok (.getfield 10, 3) := by decide +kernel
theorem dX5_edge_44 : decode cX5_edge 44 = .ok (.iload_n 1, 1) := by decide +kernel
theorem dX5_edge_45 : decode cX5_edge 45 = .ok (.invokevirtual 143, 3) := by decide +kernel
theorem dX5_edge_48 : decode cX5_edge 48 = .ok (.ifCond .eq 7, 3) := by decide +kernel
theorem dX5_edge_51 : decode cX5_edge 51 = .ok (.iconst 1, 1) := by decide +kernel
theorem dX5_edge_52 : decode cX5_edge 52 = .ok (.goto 4, 3) := by decide +kernel
theorem dX5_edge_55 : decode cX5_edge 55 = .ok (.iconst 0, 1) := by decide +kernel
theorem dX5_edge_56 : decode cX5_edge 56 = .ok (.ireturn, 1) := by decide +kernel
theorem dX5_edge_57 : decode cX5_edge 57 = .ok (.aload_n 0, 1) := by decide +kernel
theorem dX5_edge_58 : decode cX5_edge 58 = .ok (.getfield 10, 3) := by decide +kernel
theorem dX5_edge_61 : decode cX5_edge 61 = .ok (.iload_n 1, 1) := by decide +kernel
theorem dX5_edge_62 : decode cX5_edge 62 = .ok (.invokevirtual 146, 3) := by decide +kernel
theorem dX5_edge_65 : decode cX5_edge 65 = .ok (.ifCond .eq 7, 3) := by decide +kernel
theorem dX5_edge_68 : decode cX5_edge 68 = .ok (.iconst 1, 1) := by decide +kernel
theorem dX5_edge_69 : decode cX5_edge 69 = .ok (.goto 4, 3) := by decide +kernel
theorem dX5_edge_72 : decode cX5_edge 72 = .ok (.iconst 0, 1) := by decide +kernel
theorem dX5_edge_73 : decode cX5_edge 73 = .ok (.ireturn, 1) := by decide +kernel
theorem dX5_edge_74 : decode cX5_edge 74 = .ok (.aload_n 0, 1) := by decide +kernel
theorem dX5_edge_75 : decode cX5_edge 75 = .ok (.getfield 10, 3) := by decide +kernel
theorem dX5_edge_78 : decode cX5_edge 78 = .ok (.iload_n 1, 1) := by decide +kernel
theorem dX5_edge_79 : decode cX5_edge 79 = .ok (.invokevirtual 149, 3) := by decide +kernel
theorem dX5_edge_82 : decode cX5_edge 82 = .ok (.ireturn, 1) := by decide +kernel
theorem dX5_edge_83 : decode cX5_edge 83 = .ok (.ldc 117, 2) := by decide +kernel
theorem dX5_edge_85 : decode cX5_edge 85 = .ok (.ireturn, 1) := by decide +kernel
theorem dX5_truckAt_0 : decode cX5_truckAt 0 = .ok (.aload_n 0, 1) := by decide +kernel
theorem dX5_truckAt_1 : decode cX5_truckAt 1 = .ok (.getfield 10, 3) := by decide +kernel
theorem dX5_truckAt_4 : decode cX5_truckAt 4 = .ok (.iload_n 1, 1) := by decide +kernel
theorem dX5_truckAt_5 : decode cX5_truckAt 5 = .ok (.invokevirtual 152, 3) := by decide +kernel
theorem dX5_truckAt_8 : decode cX5_truckAt 8 = .ok (.ifCond .ne 6, 3) := by decide +kernel
theorem dX5_truckAt_11 : decode cX5_truckAt 11 = .ok (.ldc 122, 2) := by decide +kernel
theorem dX5_truckAt_13 : decode cX5_truckAt 13 = .ok (.ireturn, 1) := by decide +kernel
theorem dX5_truckAt_14 : decode cX5_truckAt 14 = .ok (.iload_n 2, 1) := by decide +kernel
theorem dX5_truckAt_15 : decode cX5_truckAt 15 = .ok (.tableswitch 51 0 2 #[25, 35, 45], 25) := by decide +kernel
theorem dX5_truckAt_40 : decode cX5_truckAt 40 = .ok (.aload_n 0, 1) := by decide +kernel
theorem dX5_truckAt_41 : decode cX5_truckAt 41 = .ok (.getfield 10, 3) := by decide +kernel
theorem dX5_truckAt_44 : decode cX5_truckAt 44 = .ok (.getfield 155, 3) := by decide +kernel
theorem dX5_truckAt_47 : decode cX5_truckAt 47 = .ok (.iload_n 1, 1) := by decide +kernel
theorem dX5_truckAt_48 : decode cX5_truckAt 48 = .ok (.iaload, 1) := by decide +kernel
theorem dX5_truckAt_49 : decode cX5_truckAt 49 = .ok (.ireturn, 1) := by decide +kernel
theorem dX5_truckAt_50 : decode cX5_truckAt 50 = .ok (.aload_n 0, 1) := by decide +kernel
theorem dX5_truckAt_51 : decode cX5_truckAt 51 = .ok (.getfield 10, 3) := by decide +kernel
theorem dX5_truckAt_54 : decode cX5_truckAt 54 = .ok (.getfield 158, 3) := by decide +kernel
theorem dX5_truckAt_57 : decode cX5_truckAt 57 = .ok (.iload_n 1, 1) := by decide +kernel
theorem dX5_truckAt_58 : decode cX5_truckAt 58 = .ok (.iaload, 1) := by decide +kernel
theorem dX5_truckAt_59 : decode cX5_truckAt 59 = .ok (.ireturn, 1) := by decide +kernel
theorem dX5_truckAt_60 : decode cX5_truckAt 60 = .ok (.aload_n 0, 1) := by decide +kernel
theorem dX5_truckAt_61 : decode cX5_truckAt 61 = .ok (.iload_n 1, 1) := by decide +kernel
theorem dX5_truckAt_62 : decode cX5_truckAt 62 = .ok (.invokevirtual 161, 3) := by decide +kernel
theorem dX5_truckAt_65 : decode cX5_truckAt 65 = .ok (.ireturn, 1) := by decide +kernel
theorem dX5_truckAt_66 : decode cX5_truckAt 66 = .ok (.ldc 117, 2) := by decide +kernel
theorem dX5_truckAt_68 : decode cX5_truckAt 68 = .ok (.ireturn, 1) := by decide +kernel
theorem dX5_build_0 : decode cX5_build 0 = .ok (.iload_n 1, 1) := by decide +kernel
theorem dX5_build_1 : decode cX5_build 1 = .ok (.iconst 1, 1) := by decide +kernel
theorem dX5_build_2 : decode cX5_build 2 = .ok (.iconst 3, 1) := by decide +kernel
theorem dX5_build_3 : decode cX5_build 3 = .ok (.invokestatic 164, 3) := by decide +kernel
theorem dX5_build_6 : decode cX5_build 6 = .ok (.ifCond .eq 12, 3) := by decide +kernel
theorem dX5_build_9 : decode cX5_build 9 = .ok (.iload_n 2, 1) := by decide +kernel
theorem dX5_build_10 : decode cX5_build 10 = .ok (.iconst 1, 1) := by decide +kernel
theorem dX5_build_11 : decode cX5_build 11 = .ok (.iconst 3, 1) := by decide +kernel
theorem dX5_build_12 : decode cX5_build 12 = .ok (.invokestatic 164, 3) := by decide +kernel
theorem dX5_build_15 : decode cX5_build 15 = .ok (.ifCond .ne 6, 3) := by decide +kernel
theorem dX5_build_18 : decode cX5_build 18 = .ok (.ldc 117, 2) := by decide +kernel
theorem dX5_build_20 : decode cX5_build 20 = .ok (.ireturn, 1) := by decide +kernel
theorem dX5_build_21 : decode cX5_build 21 = .ok (.aload_n 0, 1) := by decide +kernel
theorem dX5_build_22 : decode cX5_build 22 = .ok (.getfield 10, 3) := by decide +kernel
theorem dX5_build_25 : decode cX5_build 25 = .ok (.invokevirtual 168, 3) := by decide +kernel
theorem dX5_build_28 : decode cX5_build 28 = .ok (.istore_n 3, 1) := by decide +kernel
theorem dX5_build_29 : decode cX5_build 29 = .ok (.aload_n 0, 1) := by decide +kernel
theorem dX5_build_30 : decode cX5_build 30 = .ok (.invokevirtual 171, 3) := by decide +kernel
theorem dX5_build_33 : decode cX5_build 33 = .ok (.aload_n 0, 1) := by decide +kernel
theorem dX5_build_34 : decode cX5_build 34 = .ok (.getfield 10, 3) := by decide +kernel
theorem dX5_build_37 : decode cX5_build 37 = .ok (.iload_n 1, 1) := by decide +kernel
theorem dX5_build_38 : decode cX5_build 38 = .ok (.iload_n 2, 1) := by decide +kernel
theorem dX5_build_39 : decode cX5_build 39 = .ok (.invokevirtual 174, 3) := by decide +kernel
theorem dX5_build_42 : decode cX5_build 42 = .ok (.iload_n 3, 1) := by decide +kernel
theorem dX5_build_43 : decode cX5_build 43 = .ok (.ireturn, 1) := by decide +kernel
theorem dX5_truck_0 : decode cX5_truck 0 = .ok (.iload_n 1, 1) := by decide +kernel
theorem dX5_truck_1 : decode cX5_truck 1 = .ok (.iconst 0, 1) := by decide +kernel
theorem dX5_truck_2 : decode cX5_truck 2 = .ok (.bipush 99, 2) := by decide +kernel
theorem dX5_truck_4 : decode cX5_truck 4 = .ok (.invokestatic 164, 3) := by decide +kernel
theorem dX5_truck_7 : decode cX5_truck 7 = .ok (.ifCond .eq 12, 3) := by decide +kernel
theorem dX5_truck_10 : decode cX5_truck 10 = .ok (.iload_n 2, 1) := by decide +kernel
theorem dX5_truck_11 : decode cX5_truck 11 = .ok (.iconst 1, 1) := by decide +kernel
theorem dX5_truck_12 : decode cX5_truck 12 = .ok (.iconst 4, 1) := by decide +kernel
theorem dX5_truck_13 : decode cX5_truck 13 = .ok (.invokestatic 164, 3) := by decide +kernel
theorem dX5_truck_16 : decode cX5_truck 16 = .ok (.ifCond .ne 6, 3) := by decide +kernel
theorem dX5_truck_19 : decode cX5_truck 19 = .ok (.ldc 117, 2) := by decide +kernel
theorem dX5_truck_21 : decode cX5_truck 21 = .ok (.ireturn, 1) := by decide +kernel
theorem dX5_truck_22 : decode cX5_truck 22 = .ok (.aload_n 0, 1) := by decide +kernel
theorem dX5_truck_23 : decode cX5_truck 23 = .ok (.getfield 10, 3) := by decide +kernel
theorem dX5_truck_26 : decode cX5_truck 26 = .ok (.invokevirtual 178, 3) := by decide +kernel
theorem dX5_truck_29 : decode cX5_truck 29 = .ok (.ifCond .ne 6, 3) := by decide +kernel
theorem dX5_truck_32 : decode cX5_truck 32 = .ok (.ldc 182, 2) := by decide +kernel
theorem dX5_truck_34 : decode cX5_truck 34 = .ok (.ireturn, 1) := by decide +kernel
theorem dX5_truck_35 : decode cX5_truck 35 = .ok (.aload_n 0, 1) := by decide +kernel
theorem dX5_truck_36 : decode cX5_truck 36 = .ok (.invokevirtual 171, 3) := by decide +kernel
theorem dX5_truck_39 : decode cX5_truck 39 = .ok (.aload_n 0, 1) := by decide +kernel
theorem dX5_truck_40 : decode cX5_truck 40 = .ok (.getfield 10, 3) := by decide +kernel
theorem dX5_truck_43 : decode cX5_truck 43 = .ok (.iload_n 1, 1) := by decide +kernel
theorem dX5_truck_44 : decode cX5_truck 44 = .ok (.iload_n 2, 1) := by decide +kernel
theorem dX5_truck_45 : decode cX5_truck 45 = .ok (.invokevirtual 183, 3) := by decide +kernel
theorem dX5_truck_48 : decode cX5_truck 48 = .ok (.aload_n 0, 1) := by decide +kernel
theorem dX5_truck_49 : decode cX5_truck 49 = .ok (.getfield 10, 3) := by decide +kernel
theorem dX5_truck_52 : decode cX5_truck 52 = .ok (.getfield 60, 3) := by decide +kernel
theorem dX5_truck_55 : decode cX5_truck 55 = .ok (.iconst 1, 1) := by decide +kernel
theorem dX5_truck_56 : decode cX5_truck 56 = .ok (.isub, 1) := by decide +kernel
theorem dX5_truck_57 : decode cX5_truck 57 = .ok (.ireturn, 1) := by decide +kernel
theorem dX5_late_0 : decode cX5_late 0 = .ok (.aload_n 0, 1) := by decide +kernel
theorem dX5_late_1 : decode cX5_late 1 = .ok (.getfield 10, 3) := by decide +kernel
theorem dX5_late_4 : decode cX5_late 4 = .ok (.iload_n 1, 1) := by decide +kernel
theorem dX5_late_5 : decode cX5_late 5 = .ok (.invokevirtual 152, 3) := by decide +kernel
theorem dX5_late_8 : decode cX5_late 8 = .ok (.ifCond .ne 6, 3) := by decide +kernel
theorem dX5_late_11 : decode cX5_late 11 = .ok (.ldc 122, 2) := by decide +kernel
theorem dX5_late_13 : decode cX5_late 13 = .ok (.ireturn, 1) := by decide +kernel
theorem dX5_late_14 : decode cX5_late 14 = .ok (.iload_n 2, 1) := by decide +kernel
theorem dX5_late_15 : decode cX5_late 15 = .ok (.bipush (-99), 2) := by decide +kernel
theorem dX5_late_17 : decode cX5_late 17 = .ok (.bipush 99, 2) := by decide +kernel
theorem dX5_late_19 : decode cX5_late 19 = .ok (.invokestatic 164, 3) := by decide +kernel
theorem dX5_late_22 : decode cX5_late 22 = .ok (.ifCond .ne 6, 3) := by decide +kernel
theorem dX5_late_25 : decode cX5_late 25 = .ok (.ldc 117, 2) := by decide +kernel
theorem dX5_late_27 : decode cX5_late 27 = .ok (.ireturn, 1) := by decide +kernel
theorem dX5_late_28 : decode cX5_late 28 = .ok (.aload_n 0, 1) := by decide +kernel
theorem dX5_late_29 : decode cX5_late 29 = .ok (.getfield 10, 3) := by decide +kernel
theorem dX5_late_32 : decode cX5_late 32 = .ok (.getfield 155, 3) := by decide +kernel
theorem dX5_late_35 : decode cX5_late 35 = .ok (.iload_n 1, 1) := by decide +kernel
theorem dX5_late_36 : decode cX5_late 36 = .ok (.iaload, 1) := by decide +kernel
theorem dX5_late_37 : decode cX5_late 37 = .ok (.iload_n 2, 1) := by decide +kernel
theorem dX5_late_38 : decode cX5_late 38 = .ok (.iadd, 1) := by decide +kernel
theorem dX5_late_39 : decode cX5_late 39 = .ok (.istore_n 3, 1) := by decide +kernel
theorem dX5_late_40 : decode cX5_late 40 = .ok (.iload_n 3, 1) := by decide +kernel
theorem dX5_late_41 : decode cX5_late 41 = .ok (.iconst 0, 1) := by decide +kernel
theorem dX5_late_42 : decode cX5_late 42 = .ok (.bipush 99, 2) := by decide +kernel
theorem dX5_late_44 : decode cX5_late 44 = .ok (.invokestatic 164, 3) := by decide +kernel
theorem dX5_late_47 : decode cX5_late 47 = .ok (.ifCond .ne 6, 3) := by decide +kernel
theorem dX5_late_50 : decode cX5_late 50 = .ok (.ldc 117, 2) := by decide +kernel
theorem dX5_late_52 : decode cX5_late 52 = .ok (.ireturn, 1) := by decide +kernel
theorem dX5_late_53 : decode cX5_late 53 = .ok (.aload_n 0, 1) := by decide +kernel
theorem dX5_late_54 : decode cX5_late 54 = .ok (.iload_n 1, 1) := by decide +kernel
theorem dX5_late_55 : decode cX5_late 55 = .ok (.iload_n 2, 1) := by decide +kernel
theorem dX5_late_56 : decode cX5_late 56 = .ok (.invokevirtual 186, 3) := by decide +kernel
theorem dX5_late_59 : decode cX5_late 59 = .ok (.ifCond .ge 6, 3) := by decide +kernel
theorem dX5_late_62 : decode cX5_late 62 = .ok (.ldc 190, 2) := by decide +kernel
theorem dX5_late_64 : decode cX5_late 64 = .ok (.ireturn, 1) := by decide +kernel
theorem dX5_late_65 : decode cX5_late 65 = .ok (.aload_n 0, 1) := by decide +kernel
theorem dX5_late_66 : decode cX5_late 66 = .ok (.invokevirtual 171, 3) := by decide +kernel
theorem dX5_late_69 : decode cX5_late 69 = .ok (.aload_n 0, 1) := by decide +kernel
theorem dX5_late_70 : decode cX5_late 70 = .ok (.getfield 10, 3) := by decide +kernel
theorem dX5_late_73 : decode cX5_late 73 = .ok (.getfield 155, 3) := by decide +kernel
theorem dX5_late_76 : decode cX5_late 76 = .ok (.iload_n 1, 1) := by decide +kernel
theorem dX5_late_77 : decode cX5_late 77 = .ok (.iload_n 3, 1) := by decide +kernel
theorem dX5_late_78 : decode cX5_late 78 = .ok (.iastore, 1) := by decide +kernel
theorem dX5_late_79 : decode cX5_late 79 = .ok (.iload_n 3, 1) := by decide +kernel
theorem dX5_late_80 : decode cX5_late 80 = .ok (.ireturn, 1) := by decide +kernel
theorem dX5_away_0 : decode cX5_away 0 = .ok (.aload_n 0, 1) := by decide +kernel
theorem dX5_away_1 : decode cX5_away 1 = .ok (.getfield 10, 3) := by decide +kernel
theorem dX5_away_4 : decode cX5_away 4 = .ok (.iload_n 1, 1) := by decide +kernel
theorem dX5_away_5 : decode cX5_away 5 = .ok (.invokevirtual 152, 3) := by decide +kernel
theorem dX5_away_8 : decode cX5_away 8 = .ok (.ifCond .ne 6, 3) := by decide +kernel
theorem dX5_away_11 : decode cX5_away 11 = .ok (.ldc 122, 2) := by decide +kernel
theorem dX5_away_13 : decode cX5_away 13 = .ok (.ireturn, 1) := by decide +kernel
theorem dX5_away_14 : decode cX5_away 14 = .ok (.aload_n 0, 1) := by decide +kernel
theorem dX5_away_15 : decode cX5_away 15 = .ok (.iload_n 1, 1) := by decide +kernel
theorem dX5_away_16 : decode cX5_away 16 = .ok (.invokevirtual 191, 3) := by decide +kernel
theorem dX5_away_19 : decode cX5_away 19 = .ok (.ifCond .ge 6, 3) := by decide +kernel
theorem dX5_away_22 : decode cX5_away 22 = .ok (.ldc 190, 2) := by decide +kernel
theorem dX5_away_24 : decode cX5_away 24 = .ok (.ireturn, 1) := by decide +kernel
theorem dX5_away_25 : decode cX5_away 25 = .ok (.aload_n 0, 1) := by decide +kernel
theorem dX5_away_26 : decode cX5_away 26 = .ok (.invokevirtual 171, 3) := by decide +kernel
theorem dX5_away_29 : decode cX5_away 29 = .ok (.aload_n 0, 1) := by decide +kernel
theorem dX5_away_30 : decode cX5_away 30 = .ok (.getfield 10, 3) := by decide +kernel
theorem dX5_away_33 : decode cX5_away 33 = .ok (.iload_n 1, 1) := by decide +kernel
theorem dX5_away_34 : decode cX5_away 34 = .ok (.invokevirtual 194, 3) := by decide +kernel
theorem dX5_away_37 : decode cX5_away 37 = .ok (.aload_n 0, 1) := by decide +kernel
theorem dX5_away_38 : decode cX5_away 38 = .ok (.getfield 10, 3) := by decide +kernel
theorem dX5_away_41 : decode cX5_away 41 = .ok (.getfield 60, 3) := by decide +kernel
theorem dX5_away_44 : decode cX5_away 44 = .ok (.ireturn, 1) := by decide +kernel
theorem dX5_need_0 : decode cX5_need 0 = .ok (.aload_n 0, 1) := by decide +kernel
theorem dX5_need_1 : decode cX5_need 1 = .ok (.getfield 10, 3) := by decide +kernel
theorem dX5_need_4 : decode cX5_need 4 = .ok (.iload_n 1, 1) := by decide +kernel
theorem dX5_need_5 : decode cX5_need 5 = .ok (.invokevirtual 118, 3) := by decide +kernel
theorem dX5_need_8 : decode cX5_need 8 = .ok (.ifCond .ne 6, 3) := by decide +kernel
theorem dX5_need_11 : decode cX5_need 11 = .ok (.ldc 122, 2) := by decide +kernel
theorem dX5_need_13 : decode cX5_need 13 = .ok (.ireturn, 1) := by decide +kernel
theorem dX5_need_14 : decode cX5_need 14 = .ok (.iload_n 2, 1) := by decide +kernel
theorem dX5_need_15 : decode cX5_need 15 = .ok (.iconst 1, 1) := by decide +kernel
theorem dX5_need_16 : decode cX5_need 16 = .ok (.iconst 3, 1) := by decide +kernel
theorem dX5_need_17 : decode cX5_need 17 = .ok (.invokestatic 164, 3) := by decide +kernel
theorem dX5_need_20 : decode cX5_need 20 = .ok (.ifCond .ne 6, 3) := by decide +kernel
theorem dX5_need_23 : decode cX5_need 23 = .ok (.ldc 117, 2) := by decide +kernel
theorem dX5_need_25 : decode cX5_need 25 = .ok (.ireturn, 1) := by decide +kernel
theorem dX5_need_26 : decode cX5_need 26 = .ok (.aload_n 0, 1) := by decide +kernel
theorem dX5_need_27 : decode cX5_need 27 = .ok (.getfield 10, 3) := by decide +kernel
theorem dX5_need_30 : decode cX5_need 30 = .ok (.iload_n 1, 1) := by decide +kernel
theorem dX5_need_31 : decode cX5_need 31 = .ok (.invokevirtual 198, 3) := by decide +kernel
theorem dX5_need_34 : decode cX5_need 34 = .ok (.ifCond .eq 6, 3) := by decide +kernel
theorem dX5_need_37 : decode cX5_need 37 = .ok (.ldc 190, 2) := by decide +kernel
theorem dX5_need_39 : decode cX5_need 39 = .ok (.ireturn, 1) := by decide +kernel
theorem dX5_need_40 : decode cX5_need 40 = .ok (.aload_n 0, 1) := by decide +kernel
theorem dX5_need_41 : decode cX5_need 41 = .ok (.getfield 10, 3) := by decide +kernel
theorem dX5_need_44 : decode cX5_need 44 = .ok (.getfield 123, 3) := by decide +kernel
theorem dX5_need_47 : decode cX5_need 47 = .ok (.iload_n 1, 1) := by decide +kernel
theorem dX5_need_48 : decode cX5_need 48 = .ok (.iaload, 1) := by decide +kernel
theorem dX5_need_49 : decode cX5_need 49 = .ok (.istore_n 3, 1) := by decide +kernel
theorem dX5_need_50 : decode cX5_need 50 = .ok (.aload_n 0, 1) := by decide +kernel
theorem dX5_need_51 : decode cX5_need 51 = .ok (.invokevirtual 171, 3) := by decide +kernel
theorem dX5_need_54 : decode cX5_need 54 = .ok (.aload_n 0, 1) := by decide +kernel
theorem dX5_need_55 : decode cX5_need 55 = .ok (.getfield 10, 3) := by decide +kernel
theorem dX5_need_58 : decode cX5_need 58 = .ok (.getfield 123, 3) := by decide +kernel
theorem dX5_need_61 : decode cX5_need 61 = .ok (.iload_n 1, 1) := by decide +kernel
theorem dX5_need_62 : decode cX5_need 62 = .ok (.iload_n 2, 1) := by decide +kernel
theorem dX5_need_63 : decode cX5_need 63 = .ok (.iastore, 1) := by decide +kernel
theorem dX5_need_64 : decode cX5_need 64 = .ok (.iload_n 3, 1) := by decide +kernel
theorem dX5_need_65 : decode cX5_need 65 = .ok (.ireturn, 1) := by decide +kernel
theorem dX5_bound_0 : decode cX5_bound 0 = .ok (.iload_n 1, 1) := by decide +kernel
theorem dX5_bound_1 : decode cX5_bound 1 = .ok (.ifCond .ne 7, 3) := by decide +kernel
theorem dX5_bound_4 : decode cX5_bound 4 = .ok (.iconst 1, 1) := by decide +kernel
theorem dX5_bound_5 : decode cX5_bound 5 = .ok (.goto 4, 3) := by decide +kernel
theorem dX5_bound_8 : decode cX5_bound 8 = .ok (.iconst 0, 1) := by decide +kernel
theorem dX5_bound_9 : decode cX5_bound 9 = .ok (.istore_n 3, 1) := by decide +kernel
theorem dX5_bound_10 : decode cX5_bound 10 = .ok (.iload_n 1, 1) := by decide +kernel
theorem dX5_bound_11 : decode cX5_bound 11 = .ok (.iconst 0, 1) := by decide +kernel
theorem dX5_bound_12 : decode cX5_bound 12 = .ok (.iconst 2, 1) := by decide +kernel
theorem dX5_bound_13 : decode cX5_bound 13 = .ok (.invokestatic 164, 3) := by decide +kernel
theorem dX5_bound_16 : decode cX5_bound 16 = .ok (.ifCond .eq 30, 3) := by decide +kernel
theorem dX5_bound_19 : decode cX5_bound 19 = .ok (.iload_n 2, 1) := by decide +kernel
theorem dX5_bound_20 : decode cX5_bound 20 = .ok (.iload_n 3, 1) := by decide +kernel
theorem dX5_bound_21 : decode cX5_bound 21 = .ok (.ifCond .eq 7, 3) := by decide +kernel
theorem dX5_bound_24 : decode cX5_bound 24 = .ok (.iconst 1, 1) := by decide +kernel
theorem dX5_bound_25 : decode cX5_bound 25 = .ok (.goto 4, 3) := by decide +kernel
theorem dX5_bound_28 : decode cX5_bound 28 = .ok (.iconst 0, 1) := by decide +kernel
theorem dX5_bound_29 : decode cX5_bound 29 = .ok (.iload_n 3, 1) := by decide +kernel
theorem dX5_bound_30 : decode cX5_bound 30 = .ok (.ifCond .eq 8, 3) := by decide +kernel
theorem dX5_bound_33 : decode cX5_bound 33 = .ok (.bipush 40, 2) := by decide +kernel
theorem dX5_bound_35 : decode cX5_bound 35 = .ok (.goto 5, 3) := by decide +kernel
theorem dX5_bound_38 : decode cX5_bound 38 = .ok (.bipush 9, 2) := by decide +kernel
theorem dX5_bound_40 : decode cX5_bound 40 = .ok (.invokestatic 164, 3) := by decide +kernel
theorem dX5_bound_43 : decode cX5_bound 43 = .ok (.ifCond .ne 6, 3) := by decide +kernel
theorem dX5_bound_46 : decode cX5_bound 46 = .ok (.ldc 117, 2) := by decide +kernel
theorem dX5_bound_48 : decode cX5_bound 48 = .ok (.ireturn, 1) := by decide +kernel
theorem dX5_bound_49 : decode cX5_bound 49 = .ok (.aload_n 0, 1) := by decide +kernel
theorem dX5_bound_50 : decode cX5_bound 50 = .ok (.invokevirtual 171, 3) := by decide +kernel
theorem dX5_bound_53 : decode cX5_bound 53 = .ok (.aload_n 0, 1) := by decide +kernel
theorem dX5_bound_54 : decode cX5_bound 54 = .ok (.getfield 10, 3) := by decide +kernel
theorem dX5_bound_57 : decode cX5_bound 57 = .ok (.iload_n 1, 1) := by decide +kernel
theorem dX5_bound_58 : decode cX5_bound 58 = .ok (.iload_n 2, 1) := by decide +kernel
theorem dX5_bound_59 : decode cX5_bound 59 = .ok (.invokevirtual 201, 3) := by decide +kernel
theorem dX5_bound_62 : decode cX5_bound 62 = .ok (.ireturn, 1) := by decide +kernel
theorem dX5_pour_0 : decode cX5_pour 0 = .ok (.aload_n 0, 1) := by decide +kernel
theorem dX5_pour_1 : decode cX5_pour 1 = .ok (.getfield 10, 3) := by decide +kernel
theorem dX5_pour_4 : decode cX5_pour 4 = .ok (.iload_n 1, 1) := by decide +kernel
theorem dX5_pour_5 : decode cX5_pour 5 = .ok (.invokevirtual 118, 3) := by decide +kernel
theorem dX5_pour_8 : decode cX5_pour 8 = .ok (.ifCond .ne 6, 3) := by decide +kernel
theorem dX5_pour_11 : decode cX5_pour 11 = .ok (.ldc 122, 2) := by decide +kernel
theorem dX5_pour_13 : decode cX5_pour 13 = .ok (.ireturn, 1) := by decide +kernel
theorem dX5_pour_14 : decode cX5_pour 14 = .ok (.aload_n 0, 1) := by decide +kernel
theorem dX5_pour_15 : decode cX5_pour 15 = .ok (.getfield 10, 3) := by decide +kernel
theorem dX5_pour_18 : decode cX5_pour 18 = .ok (.iload_n 1, 1) := by decide +kernel
theorem dX5_pour_19 : decode cX5_pour 19 = .ok (.invokevirtual 133, 3) := by decide +kernel
theorem dX5_pour_22 : decode cX5_pour 22 = .ok (.iconst (-1), 1) := by decide +kernel
theorem dX5_pour_23 : decode cX5_pour 23 = .ok (.if_icmp .ne 6, 3) := by decide +kernel
theorem dX5_pour_26 : decode cX5_pour 26 = .ok (.ldc 190, 2) := by decide +kernel
theorem dX5_pour_28 : decode cX5_pour 28 = .ok (.ireturn, 1) := by decide +kernel
theorem dX5_pour_29 : decode cX5_pour 29 = .ok (.aload_n 0, 1) := by decide +kernel
theorem dX5_pour_30 : decode cX5_pour 30 = .ok (.invokevirtual 171, 3) := by decide +kernel
theorem dX5_pour_33 : decode cX5_pour 33 = .ok (.aload_n 0, 1) := by decide +kernel
theorem dX5_pour_34 : decode cX5_pour 34 = .ok (.getfield 10, 3) := by decide +kernel
theorem dX5_pour_37 : decode cX5_pour 37 = .ok (.iload_n 1, 1) := by decide +kernel
theorem dX5_pour_38 : decode cX5_pour 38 = .ok (.invokevirtual 204, 3) := by decide +kernel
theorem dX5_pour_41 : decode cX5_pour 41 = .ok (.aload_n 0, 1) := by decide +kernel
theorem dX5_pour_42 : decode cX5_pour 42 = .ok (.getfield 10, 3) := by decide +kernel
theorem dX5_pour_45 : decode cX5_pour 45 = .ok (.invokevirtual 85, 3) := by decide +kernel
theorem dX5_pour_48 : decode cX5_pour 48 = .ok (.ireturn, 1) := by decide +kernel
theorem dX5_rest_0 : decode cX5_rest 0 = .ok (.iload_n 1, 1) := by decide +kernel
theorem dX5_rest_1 : decode cX5_rest 1 = .ok (.iconst 1, 1) := by decide +kernel
theorem dX5_rest_2 : decode cX5_rest 2 = .ok (.bipush 40, 2) := by decide +kernel
theorem dX5_rest_4 : decode cX5_rest 4 = .ok (.invokestatic 164, 3) := by decide +kernel
theorem dX5_rest_7 : decode cX5_rest 7 = .ok (.ifCond .ne 6, 3) := by decide +kernel
theorem dX5_rest_10 : decode cX5_rest 10 = .ok (.ldc 117, 2) := by decide +kernel
theorem dX5_rest_12 : decode cX5_rest 12 = .ok (.ireturn, 1) := by decide +kernel
theorem dX5_rest_13 : decode cX5_rest 13 = .ok (.aload_n 0, 1) := by decide +kernel
theorem dX5_rest_14 : decode cX5_rest 14 = .ok (.getfield 10, 3) := by decide +kernel
theorem dX5_rest_17 : decode cX5_rest 17 = .ok (.getfield 57, 3) := by decide +kernel
theorem dX5_rest_20 : decode cX5_rest 20 = .ok (.iload_n 1, 1) := by decide +kernel
theorem dX5_rest_21 : decode cX5_rest 21 = .ok (.iadd, 1) := by decide +kernel
theorem dX5_rest_22 : decode cX5_rest 22 = .ok (.sipush 9999, 3) := by decide +kernel
theorem dX5_rest_25 : decode cX5_rest 25 = .ok (.if_icmp .le 6, 3) := by decide +kernel
theorem dX5_rest_28 : decode cX5_rest 28 = .ok (.ldc 190, 2) := by decide +kernel
theorem dX5_rest_30 : decode cX5_rest 30 = .ok (.ireturn, 1) := by decide +kernel
theorem dX5_rest_31 : decode cX5_rest 31 = .ok (.aload_n 0, 1) := by decide +kernel
theorem dX5_rest_32 : decode cX5_rest 32 = .ok (.invokevirtual 171, 3) := by decide +kernel
theorem dX5_rest_35 : decode cX5_rest 35 = .ok (.aload_n 0, 1) := by decide +kernel
theorem dX5_rest_36 : decode cX5_rest 36 = .ok (.getfield 10, 3) := by decide +kernel
theorem dX5_rest_39 : decode cX5_rest 39 = .ok (.dup, 1) := by decide +kernel
theorem dX5_rest_40 : decode cX5_rest 40 = .ok (.getfield 57, 3) := by decide +kernel
theorem dX5_rest_43 : decode cX5_rest 43 = .ok (.iload_n 1, 1) := by decide +kernel
theorem dX5_rest_44 : decode cX5_rest 44 = .ok (.iadd, 1) := by decide +kernel
theorem dX5_rest_45 : decode cX5_rest 45 = .ok (.putfield 57, 3) := by decide +kernel
theorem dX5_rest_48 : decode cX5_rest 48 = .ok (.aload_n 0, 1) := by decide +kernel
theorem dX5_rest_49 : decode cX5_rest 49 = .ok (.getfield 10, 3) := by decide +kernel
theorem dX5_rest_52 : decode cX5_rest 52 = .ok (.getfield 57, 3) := by decide +kernel
theorem dX5_rest_55 : decode cX5_rest 55 = .ok (.ireturn, 1) := by decide +kernel
theorem dX5_follow_0 : decode cX5_follow 0 = .ok (.aload_n 0, 1) := by decide +kernel
theorem dX5_follow_1 : decode cX5_follow 1 = .ok (.invokevirtual 91, 3) := by decide +kernel
theorem dX5_follow_4 : decode cX5_follow 4 = .ok (.iconst 0, 1) := by decide +kernel
theorem dX5_follow_5 : decode cX5_follow 5 = .ok (.invokevirtual 207, 3) := by decide +kernel
theorem dX5_follow_8 : decode cX5_follow 8 = .ok (.istore_n 1, 1) := by decide +kernel
theorem dX5_follow_9 : decode cX5_follow 9 = .ok (.iload_n 1, 1) := by decide +kernel
theorem dX5_follow_10 : decode cX5_follow 10 = .ok (.iconst (-1), 1) := by decide +kernel
theorem dX5_follow_11 : decode cX5_follow 11 = .ok (.if_icmp .ne 6, 3) := by decide +kernel
theorem dX5_follow_14 : decode cX5_follow 14 = .ok (.ldc 190, 2) := by decide +kernel
theorem dX5_follow_16 : decode cX5_follow 16 = .ok (.ireturn, 1) := by decide +kernel
theorem dX5_follow_17 : decode cX5_follow 17 = .ok (.aload_n 0, 1) := by decide +kernel
theorem dX5_follow_18 : decode cX5_follow 18 = .ok (.invokevirtual 171, 3) := by decide +kernel
theorem dX5_follow_21 : decode cX5_follow 21 = .ok (.aload_n 0, 1) := by decide +kernel
theorem dX5_follow_22 : decode cX5_follow 22 = .ok (.getfield 10, 3) := by decide +kernel
theorem dX5_follow_25 : decode cX5_follow 25 = .ok (.iload_n 1, 1) := by decide +kernel
theorem dX5_follow_26 : decode cX5_follow 26 = .ok (.invokevirtual 204, 3) := by decide +kernel
theorem dX5_follow_29 : decode cX5_follow 29 = .ok (.iload_n 1, 1) := by decide +kernel
theorem dX5_follow_30 : decode cX5_follow 30 = .ok (.ireturn, 1) := by decide +kernel
theorem dX5_drift_0 : decode cX5_drift 0 = .ok (.iload_n 1, 1) := by decide +kernel
theorem dX5_drift_1 : decode cX5_drift 1 = .ok (.iconst 1, 1) := by decide +kernel
theorem dX5_drift_2 : decode cX5_drift 2 = .ok (.bipush 20, 2) := by decide +kernel
theorem dX5_drift_4 : decode cX5_drift 4 = .ok (.invokestatic 164, 3) := by decide +kernel
theorem dX5_drift_7 : decode cX5_drift 7 = .ok (.ifCond .ne 6, 3) := by decide +kernel
theorem dX5_drift_10 : decode cX5_drift 10 = .ok (.ldc 117, 2) := by decide +kernel
theorem dX5_drift_12 : decode cX5_drift 12 = .ok (.ireturn, 1) := by decide +kernel
theorem dX5_drift_13 : decode cX5_drift 13 = .ok (.iconst 0, 1) := by decide +kernel
theorem dX5_drift_14 : decode cX5_drift 14 = .ok (.istore_n 2, 1) := by decide +kernel
theorem dX5_drift_15 : decode cX5_drift 15 = .ok (.iload_n 2, 1) := by decide +kernel
theorem dX5_drift_16 : decode cX5_drift 16 = .ok (.iload_n 1, 1) := by decide +kernel
theorem dX5_drift_17 : decode cX5_drift 17 = .ok (.if_icmp .ge 13, 3) := by decide +kernel
theorem dX5_drift_20 : decode cX5_drift 20 = .ok (.aload_n 0, 1) := by decide +kernel
theorem dX5_drift_21 : decode cX5_drift 21 = .ok (.invokevirtual 210, 3) := by decide +kernel
theorem dX5_drift_24 : decode cX5_drift 24 = .ok (.iinc 2 1, 3) := by decide +kernel
theorem dX5_drift_27 : decode cX5_drift 27 = .ok (.goto (-12), 3) := by decide +kernel
theorem dX5_drift_30 : decode cX5_drift 30 = .ok (.aload_n 0, 1) := by decide +kernel
theorem dX5_drift_31 : decode cX5_drift 31 = .ok (.getfield 10, 3) := by decide +kernel
theorem dX5_drift_34 : decode cX5_drift 34 = .ok (.invokevirtual 168, 3) := by decide +kernel
theorem dX5_drift_37 : decode cX5_drift 37 = .ok (.ireturn, 1) := by decide +kernel
theorem dX5_undo_0 : decode cX5_undo 0 = .ok (.iload_n 1, 1) := by decide +kernel
theorem dX5_undo_1 : decode cX5_undo 1 = .ok (.iconst 1, 1) := by decide +kernel
theorem dX5_undo_2 : decode cX5_undo 2 = .ok (.bipush 20, 2) := by decide +kernel
theorem dX5_undo_4 : decode cX5_undo 4 = .ok (.invokestatic 164, 3) := by decide +kernel
theorem dX5_undo_7 : decode cX5_undo 7 = .ok (.ifCond .ne 6, 3) := by decide +kernel
theorem dX5_undo_10 : decode cX5_undo 10 = .ok (.ldc 117, 2) := by decide +kernel
theorem dX5_undo_12 : decode cX5_undo 12 = .ok (.ireturn, 1) := by decide +kernel
theorem dX5_undo_13 : decode cX5_undo 13 = .ok (.iload_n 1, 1) := by decide +kernel
theorem dX5_undo_14 : decode cX5_undo 14 = .ok (.aload_n 0, 1) := by decide +kernel
theorem dX5_undo_15 : decode cX5_undo 15 = .ok (.getfield 32, 3) := by decide +kernel
theorem dX5_undo_18 : decode cX5_undo 18 = .ok (.getfield 114, 3) := by decide +kernel
theorem dX5_undo_21 : decode cX5_undo 21 = .ok (.if_icmp .le 6, 3) := by decide +kernel
theorem dX5_undo_24 : decode cX5_undo 24 = .ok (.ldc 190, 2) := by decide +kernel
theorem dX5_undo_26 : decode cX5_undo 26 = .ok (.ireturn, 1) := by decide +kernel
theorem dX5_undo_27 : decode cX5_undo 27 = .ok (.aload_n 0, 1) := by decide +kernel
theorem dX5_undo_28 : decode cX5_undo 28 = .ok (.getfield 32, 3) := by decide +kernel
theorem dX5_undo_31 : decode cX5_undo 31 = .ok (.iload_n 1, 1) := by decide +kernel
theorem dX5_undo_32 : decode cX5_undo 32 = .ok (.aload_n 0, 1) := by decide +kernel
theorem dX5_undo_33 : decode cX5_undo 33 = .ok (.getfield 10, 3) := by decide +kernel
theorem dX5_undo_36 : decode cX5_undo 36 = .ok (.invokevirtual 213, 3) := by decide +kernel
theorem dX5_undo_39 : decode cX5_undo 39 = .ok (.aload_n 0, 1) := by decide +kernel
theorem dX5_undo_40 : decode cX5_undo 40 = .ok (.iconst 0, 1) := by decide +kernel
theorem dX5_undo_41 : decode cX5_undo 41 = .ok (.putfield 217, 3) := by decide +kernel
theorem dX5_undo_44 : decode cX5_undo 44 = .ok (.aload_n 0, 1) := by decide +kernel
theorem dX5_undo_45 : decode cX5_undo 45 = .ok (.getfield 10, 3) := by decide +kernel
theorem dX5_undo_48 : decode cX5_undo 48 = .ok (.getfield 57, 3) := by decide +kernel
theorem dX5_undo_51 : decode cX5_undo 51 = .ok (.ireturn, 1) := by decide +kernel
theorem dX5_best_0 : decode cX5_best 0 = .ok (.aload_n 0, 1) := by decide +kernel
theorem dX5_best_1 : decode cX5_best 1 = .ok (.invokevirtual 91, 3) := by decide +kernel
theorem dX5_best_4 : decode cX5_best 4 = .ok (.iload_n 1, 1) := by decide +kernel
theorem dX5_best_5 : decode cX5_best 5 = .ok (.invokevirtual 207, 3) := by decide +kernel
theorem dX5_best_8 : decode cX5_best 8 = .ok (.ireturn, 1) := by decide +kernel
theorem dX5_stop_0 : decode cX5_stop 0 = .ok (.iload_n 1, 1) := by decide +kernel
theorem dX5_stop_1 : decode cX5_stop 1 = .ok (.iconst 0, 1) := by decide +kernel
theorem dX5_stop_2 : decode cX5_stop 2 = .ok (.iconst 1, 1) := by decide +kernel
theorem dX5_stop_3 : decode cX5_stop 3 = .ok (.invokestatic 164, 3) := by decide +kernel
theorem dX5_stop_6 : decode cX5_stop 6 = .ok (.ifCond .ne 6, 3) := by decide +kernel
theorem dX5_stop_9 : decode cX5_stop 9 = .ok (.ldc 117, 2) := by decide +kernel
theorem dX5_stop_11 : decode cX5_stop 11 = .ok (.ireturn, 1) := by decide +kernel
theorem dX5_stop_12 : decode cX5_stop 12 = .ok (.aload_n 0, 1) := by decide +kernel
theorem dX5_stop_13 : decode cX5_stop 13 = .ok (.invokevirtual 91, 3) := by decide +kernel
theorem dX5_stop_16 : decode cX5_stop 16 = .ok (.astore_n 2, 1) := by decide +kernel
theorem dX5_stop_17 : decode cX5_stop 17 = .ok (.aload_n 2, 1) := by decide +kernel
theorem dX5_stop_18 : decode cX5_stop 18 = .ok (.getfield 221, 3) := by decide +kernel
theorem dX5_stop_21 : decode cX5_stop 21 = .ok (.ifCond .ne 5, 3) := by decide +kernel
theorem dX5_stop_24 : decode cX5_stop 24 = .ok (.iconst (-1), 1) := by decide +kernel
theorem dX5_stop_25 : decode cX5_stop 25 = .ok (.ireturn, 1) := by decide +kernel
theorem dX5_stop_26 : decode cX5_stop 26 = .ok (.aload_n 0, 1) := by decide +kernel
theorem dX5_stop_27 : decode cX5_stop 27 = .ok (.getfield 16, 3) := by decide +kernel
theorem dX5_stop_30 : decode cX5_stop 30 = .ok (.aload_n 0, 1) := by decide +kernel
theorem dX5_stop_31 : decode cX5_stop 31 = .ok (.getfield 10, 3) := by decide +kernel
theorem dX5_stop_34 : decode cX5_stop 34 = .ok (.invokevirtual 224, 3) := by decide +kernel
theorem dX5_stop_37 : decode cX5_stop 37 = .ok (.aload_n 0, 1) := by decide +kernel
theorem dX5_stop_38 : decode cX5_stop 38 = .ok (.getfield 16, 3) := by decide +kernel
theorem dX5_stop_41 : decode cX5_stop 41 = .ok (.invokevirtual 104, 3) := by decide +kernel
theorem dX5_stop_44 : decode cX5_stop 44 = .ok (.istore_n 3, 1) := by decide +kernel
theorem dX5_stop_45 : decode cX5_stop 45 = .ok (.iconst 0, 1) := by decide +kernel
theorem dX5_stop_46 : decode cX5_stop 46 = .ok (.istore 4, 2) := by decide +kernel
theorem dX5_stop_48 : decode cX5_stop 48 = .ok (.iconst 0, 1) := by decide +kernel
theorem dX5_stop_49 : decode cX5_stop 49 = .ok (.istore 5, 2) := by decide +kernel
theorem dX5_stop_51 : decode cX5_stop 51 = .ok (.iload 5, 2) := by decide +kernel
theorem dX5_stop_53 : decode cX5_stop 53 = .ok (.aload_n 2, 1) := by decide +kernel
theorem dX5_stop_54 : decode cX5_stop 54 = .ok (.getfield 228, 3) := by decide +kernel
theorem dX5_stop_57 : decode cX5_stop 57 = .ok (.if_icmp .ge 46, 3) := by decide +kernel
theorem dX5_stop_60 : decode cX5_stop 60 = .ok (.aload_n 0, 1) := by decide +kernel
theorem dX5_stop_61 : decode cX5_stop 61 = .ok (.getfield 16, 3) := by decide +kernel
theorem dX5_stop_64 : decode cX5_stop 64 = .ok (.aload_n 2, 1) := by decide +kernel
theorem dX5_stop_65 : decode cX5_stop 65 = .ok (.iload 5, 2) := by decide +kernel
theorem dX5_stop_67 : decode cX5_stop 67 = .ok (.invokevirtual 207, 3) := by decide +kernel
theorem dX5_stop_70 : decode cX5_stop 70 = .ok (.invokevirtual 204, 3) := by decide +kernel
theorem dX5_stop_73 : decode cX5_stop 73 = .ok (.aload_n 0, 1) := by decide +kernel
theorem dX5_stop_74 : decode cX5_stop 74 = .ok (.getfield 16, 3) := by decide +kernel
theorem dX5_stop_77 : decode cX5_stop 77 = .ok (.invokevirtual 104, 3) := by decide +kernel
theorem dX5_stop_80 : decode cX5_stop 80 = .ok (.istore 6, 2) := by decide +kernel
theorem dX5_stop_82 : decode cX5_stop 82 = .ok (.iload 6, 2) := by decide +kernel
theorem dX5_stop_84 : decode cX5_stop 84 = .ok (.iload_n 3, 1) := by decide +kernel
theorem dX5_stop_85 : decode cX5_stop 85 = .ok (.if_icmp .ge 12, 3) := by decide +kernel
theorem dX5_stop_88 : decode cX5_stop 88 = .ok (.iload 6, 2) := by decide +kernel
theorem dX5_stop_90 : decode cX5_stop 90 = .ok (.istore_n 3, 1) := by decide +kernel
theorem dX5_stop_91 : decode cX5_stop 91 = .ok (.iload 5, 2) := by decide +kernel
theorem dX5_stop_93 : decode cX5_stop 93 = .ok (.iconst 1, 1) := by decide +kernel
theorem dX5_stop_94 : decode cX5_stop 94 = .ok (.iadd, 1) := by decide +kernel
theorem dX5_stop_95 : decode cX5_stop 95 = .ok (.istore 4, 2) := by decide +kernel
theorem dX5_stop_97 : decode cX5_stop 97 = .ok (.iinc 5 1, 3) := by decide +kernel
theorem dX5_stop_100 : decode cX5_stop 100 = .ok (.goto (-49), 3) := by decide +kernel
theorem dX5_stop_103 : decode cX5_stop 103 = .ok (.iload_n 1, 1) := by decide +kernel
theorem dX5_stop_104 : decode cX5_stop 104 = .ok (.ifCond .ne 7, 3) := by decide +kernel
theorem dX5_stop_107 : decode cX5_stop 107 = .ok (.iload_n 3, 1) := by decide +kernel
theorem dX5_stop_108 : decode cX5_stop 108 = .ok (.goto 5, 3) := by decide +kernel
theorem dX5_stop_111 : decode cX5_stop 111 = .ok (.iload 4, 2) := by decide +kernel
theorem dX5_stop_113 : decode cX5_stop 113 = .ok (.ireturn, 1) := by decide +kernel
theorem dX5_write_0 : decode cX5_write 0 = .ok (.aload_n 0, 1) := by decide +kernel
theorem dX5_write_1 : decode cX5_write 1 = .ok (.getfield 10, 3) := by decide +kernel
theorem dX5_write_4 : decode cX5_write 4 = .ok (.iload_n 1, 1) := by decide +kernel
theorem dX5_write_5 : decode cX5_write 5 = .ok (.invokevirtual 140, 3) := by decide +kernel
theorem dX5_write_8 : decode cX5_write 8 = .ok (.ifCond .ne 6, 3) := by decide +kernel
theorem dX5_write_11 : decode cX5_write 11 = .ok (.ldc 122, 2) := by decide +kernel
theorem dX5_write_13 : decode cX5_write 13 = .ok (.ireturn, 1) := by decide +kernel
theorem dX5_write_14 : decode cX5_write 14 = .ok (.aload_n 0, 1) := by decide +kernel
theorem dX5_write_15 : decode cX5_write 15 = .ok (.getfield 39, 3) := by decide +kernel
theorem dX5_write_18 : decode cX5_write 18 = .ok (.invokevirtual 229, 3) := by decide +kernel
theorem dX5_write_21 : decode cX5_write 21 = .ok (.ifCond .ne 6, 3) := by decide +kernel
theorem dX5_write_24 : decode cX5_write 24 = .ok (.ldc 182, 2) := by decide +kernel
theorem dX5_write_26 : decode cX5_write 26 = .ok (.ireturn, 1) := by decide +kernel
theorem dX5_write_27 : decode cX5_write 27 = .ok (.aload_n 0, 1) := by decide +kernel
theorem dX5_write_28 : decode cX5_write 28 = .ok (.getfield 39, 3) := by decide +kernel
theorem dX5_write_31 : decode cX5_write 31 = .ok (.iload_n 1, 1) := by decide +kernel
theorem dX5_write_32 : decode cX5_write 32 = .ok (.iload_n 2, 1) := by decide +kernel
theorem dX5_write_33 : decode cX5_write 33 = .ok (.invokevirtual 232, 3) := by decide +kernel
theorem dX5_write_36 : decode cX5_write 36 = .ok (.aload_n 0, 1) := by decide +kernel
theorem dX5_write_37 : decode cX5_write 37 = .ok (.getfield 39, 3) := by decide +kernel
theorem dX5_write_40 : decode cX5_write 40 = .ok (.getfield 107, 3) := by decide +kernel
theorem dX5_write_43 : decode cX5_write 43 = .ok (.ireturn, 1) := by decide +kernel
theorem dX5_tear_0 : decode cX5_tear 0 = .ok (.aload_n 0, 1) := by decide +kernel
theorem dX5_tear_1 : decode cX5_tear 1 = .ok (.getfield 39, 3) := by decide +kernel
theorem dX5_tear_4 : decode cX5_tear 4 = .ok (.getfield 107, 3) := by decide +kernel
theorem dX5_tear_7 : decode cX5_tear 7 = .ok (.istore_n 1, 1) := by decide +kernel
theorem dX5_tear_8 : decode cX5_tear 8 = .ok (.aload_n 0, 1) := by decide +kernel
theorem dX5_tear_9 : decode cX5_tear 9 = .ok (.getfield 39, 3) := by decide +kernel
theorem dX5_tear_12 : decode cX5_tear 12 = .ok (.iconst 0, 1) := by decide +kernel
theorem dX5_tear_13 : decode cX5_tear 13 = .ok (.putfield 107, 3) := by decide +kernel
theorem dX5_tear_16 : decode cX5_tear 16 = .ok (.iload_n 1, 1) := by decide +kernel
theorem dX5_tear_17 : decode cX5_tear 17 = .ok (.ireturn, 1) := by decide +kernel
theorem dX5_seed_0 : decode cX5_seed 0 = .ok (.iload_n 1, 1) := by decide +kernel
theorem dX5_seed_1 : decode cX5_seed 1 = .ok (.ifCond .ge 6, 3) := by decide +kernel
theorem dX5_seed_4 : decode cX5_seed 4 = .ok (.ldc 117, 2) := by decide +kernel
theorem dX5_seed_6 : decode cX5_seed 6 = .ok (.ireturn, 1) := by decide +kernel
theorem dX5_seed_7 : decode cX5_seed 7 = .ok (.aload_n 0, 1) := by decide +kernel
theorem dX5_seed_8 : decode cX5_seed 8 = .ok (.getfield 236, 3) := by decide +kernel
theorem dX5_seed_11 : decode cX5_seed 11 = .ok (.istore_n 2, 1) := by decide +kernel
theorem dX5_seed_12 : decode cX5_seed 12 = .ok (.aload_n 0, 1) := by decide +kernel
theorem dX5_seed_13 : decode cX5_seed 13 = .ok (.iload_n 1, 1) := by decide +kernel
theorem dX5_seed_14 : decode cX5_seed 14 = .ok (.putfield 236, 3) := by decide +kernel
theorem dX5_seed_17 : decode cX5_seed 17 = .ok (.iload_n 2, 1) := by decide +kernel
theorem dX5_seed_18 : decode cX5_seed 18 = .ok (.ireturn, 1) := by decide +kernel
theorem dX5_keep_0 : decode cX5_keep 0 = .ok (.aload_n 0, 1) := by decide +kernel
theorem dX5_keep_1 : decode cX5_keep 1 = .ok (.iload_n 1, 1) := by decide +kernel
theorem dX5_keep_2 : decode cX5_keep 2 = .ok (.invokevirtual 239, 3) := by decide +kernel
theorem dX5_keep_5 : decode cX5_keep 5 = .ok (.astore_n 2, 1) := by decide +kernel
theorem dX5_keep_6 : decode cX5_keep 6 = .ok (.aload_n 2, 1) := by decide +kernel
theorem dX5_keep_7 : decode cX5_keep 7 = .ok (.ifnonnull 6, 3) := by decide +kernel
theorem dX5_keep_10 : decode cX5_keep 10 = .ok (.ldc 122, 2) := by decide +kernel
theorem dX5_keep_12 : decode cX5_keep 12 = .ok (.ireturn, 1) := by decide +kernel
theorem dX5_keep_13 : decode cX5_keep 13 = .ok (.aload_n 2, 1) := by decide +kernel
theorem dX5_keep_14 : decode cX5_keep 14 = .ok (.iconst 1, 1) := by decide +kernel
theorem dX5_keep_15 : decode cX5_keep 15 = .ok (.putfield 243, 3) := by decide +kernel
theorem dX5_keep_18 : decode cX5_keep 18 = .ok (.aload_n 2, 1) := by decide +kernel
theorem dX5_keep_19 : decode cX5_keep 19 = .ok (.aload_n 0, 1) := by decide +kernel
theorem dX5_keep_20 : decode cX5_keep 20 = .ok (.getfield 236, 3) := by decide +kernel
theorem dX5_keep_23 : decode cX5_keep 23 = .ok (.putfield 246, 3) := by decide +kernel
theorem dX5_keep_26 : decode cX5_keep 26 = .ok (.aload_n 2, 1) := by decide +kernel
theorem dX5_keep_27 : decode cX5_keep 27 = .ok (.getfield 249, 3) := by decide +kernel
theorem dX5_keep_30 : decode cX5_keep 30 = .ok (.aload_n 0, 1) := by decide +kernel
theorem dX5_keep_31 : decode cX5_keep 31 = .ok (.getfield 10, 3) := by decide +kernel
theorem dX5_keep_34 : decode cX5_keep 34 = .ok (.invokevirtual 224, 3) := by decide +kernel
theorem dX5_keep_37 : decode cX5_keep 37 = .ok (.aload_n 0, 1) := by decide +kernel
theorem dX5_keep_38 : decode cX5_keep 38 = .ok (.getfield 32, 3) := by decide +kernel
theorem dX5_keep_41 : decode cX5_keep 41 = .ok (.invokevirtual 252, 3) := by decide +kernel
theorem dX5_keep_44 : decode cX5_keep 44 = .ok (.iconst 1, 1) := by decide +kernel
theorem dX5_keep_45 : decode cX5_keep 45 = .ok (.ireturn, 1) := by decide +kernel
theorem dX5_goBack_0 : decode cX5_goBack 0 = .ok (.aload_n 0, 1) := by decide +kernel
theorem dX5_goBack_1 : decode cX5_goBack 1 = .ok (.iload_n 1, 1) := by decide +kernel
theorem dX5_goBack_2 : decode cX5_goBack 2 = .ok (.invokevirtual 239, 3) := by decide +kernel
theorem dX5_goBack_5 : decode cX5_goBack 5 = .ok (.astore_n 2, 1) := by decide +kernel
theorem dX5_goBack_6 : decode cX5_goBack 6 = .ok (.aload_n 2, 1) := by decide +kernel
theorem dX5_goBack_7 : decode cX5_goBack 7 = .ok (.ifnonnull 6, 3) := by decide +kernel
theorem dX5_goBack_10 : decode cX5_goBack 10 = .ok (.ldc 122, 2) := by decide +kernel
theorem dX5_goBack_12 : decode cX5_goBack 12 = .ok (.ireturn, 1) := by decide +kernel
theorem dX5_goBack_13 : decode cX5_goBack 13 = .ok (.aload_n 2, 1) := by decide +kernel
theorem dX5_goBack_14 : decode cX5_goBack 14 = .ok (.getfield 243, 3) := by decide +kernel
theorem dX5_goBack_17 : decode cX5_goBack 17 = .ok (.ifCond .ne 6, 3) := by decide +kernel
theorem dX5_goBack_20 : decode cX5_goBack 20 = .ok (.ldc 190, 2) := by decide +kernel
theorem dX5_goBack_22 : decode cX5_goBack 22 = .ok (.ireturn, 1) := by decide +kernel
theorem dX5_goBack_23 : decode cX5_goBack 23 = .ok (.aload_n 0, 1) := by decide +kernel
theorem dX5_goBack_24 : decode cX5_goBack 24 = .ok (.aload_n 2, 1) := by decide +kernel
theorem dX5_goBack_25 : decode cX5_goBack 25 = .ok (.getfield 246, 3) := by decide +kernel
theorem dX5_goBack_28 : decode cX5_goBack 28 = .ok (.putfield 236, 3) := by decide +kernel
theorem dX5_goBack_31 : decode cX5_goBack 31 = .ok (.aload_n 0, 1) := by decide +kernel
theorem dX5_goBack_32 : decode cX5_goBack 32 = .ok (.getfield 10, 3) := by decide +kernel
theorem dX5_goBack_35 : decode cX5_goBack 35 = .ok (.aload_n 2, 1) := by decide +kernel
theorem dX5_goBack_36 : decode cX5_goBack 36 = .ok (.getfield 249, 3) := by decide +kernel
theorem dX5_goBack_39 : decode cX5_goBack 39 = .ok (.invokevirtual 224, 3) := by decide +kernel
theorem dX5_goBack_42 : decode cX5_goBack 42 = .ok (.aload_n 0, 1) := by decide +kernel
theorem dX5_goBack_43 : decode cX5_goBack 43 = .ok (.getfield 32, 3) := by decide +kernel
theorem dX5_goBack_46 : decode cX5_goBack 46 = .ok (.invokevirtual 252, 3) := by decide +kernel
theorem dX5_goBack_49 : decode cX5_goBack 49 = .ok (.aload_n 0, 1) := by decide +kernel
theorem dX5_goBack_50 : decode cX5_goBack 50 = .ok (.iconst 0, 1) := by decide +kernel
theorem dX5_goBack_51 : decode cX5_goBack 51 = .ok (.putfield 217, 3) := by decide +kernel
theorem dX5_goBack_54 : decode cX5_goBack 54 = .ok (.iconst 1, 1) := by decide +kernel
theorem dX5_goBack_55 : decode cX5_goBack 55 = .ok (.ireturn, 1) := by decide +kernel
theorem dX5_within_0 : decode cX5_within 0 = .ok (.iload_n 0, 1) := by decide +kernel
theorem dX5_within_1 : decode cX5_within 1 = .ok (.iload_n 1, 1) := by decide +kernel
theorem dX5_within_2 : decode cX5_within 2 = .ok (.if_icmp .lt 12, 3) := by decide +kernel
theorem dX5_within_5 : decode cX5_within 5 = .ok (.iload_n 0, 1) := by decide +kernel
theorem dX5_within_6 : decode cX5_within 6 = .ok (.iload_n 2, 1) := by decide +kernel
theorem dX5_within_7 : decode cX5_within 7 = .ok (.if_icmp .gt 7, 3) := by decide +kernel
theorem dX5_within_10 : decode cX5_within 10 = .ok (.iconst 1, 1) := by decide +kernel
theorem dX5_within_11 : decode cX5_within 11 = .ok (.goto 4, 3) := by decide +kernel
theorem dX5_within_14 : decode cX5_within 14 = .ok (.iconst 0, 1) := by decide +kernel
theorem dX5_within_15 : decode cX5_within 15 = .ok (.ireturn, 1) := by decide +kernel
theorem dX5_beforeDeed_0 : decode cX5_beforeDeed 0 = .ok (.aload_n 0, 1) := by decide +kernel
theorem dX5_beforeDeed_1 : decode cX5_beforeDeed 1 = .ok (.getfield 32, 3) := by decide +kernel
theorem dX5_beforeDeed_4 : decode cX5_beforeDeed 4 = .ok (.aload_n 0, 1) := by decide +kernel
theorem dX5_beforeDeed_5 : decode cX5_beforeDeed 5 = .ok (.getfield 10, 3) := by decide +kernel
theorem dX5_beforeDeed_8 : decode cX5_beforeDeed 8 = .ok (.invokevirtual 255, 3) := by decide +kernel
theorem dX5_beforeDeed_11 : decode cX5_beforeDeed 11 = .ok (.aload_n 0, 1) := by decide +kernel
theorem dX5_beforeDeed_12 : decode cX5_beforeDeed 12 = .ok (.iconst 0, 1) := by decide +kernel
theorem dX5_beforeDeed_13 : decode cX5_beforeDeed 13 = .ok (.putfield 217, 3) := by decide +kernel
theorem dX5_beforeDeed_16 : decode cX5_beforeDeed 16 = .ok (.return_, 1) := by decide +kernel
theorem dX5_plan_0 : decode cX5_plan 0 = .ok (.aload_n 0, 1) := by decide +kernel
theorem dX5_plan_1 : decode cX5_plan 1 = .ok (.getfield 217, 3) := by decide +kernel
theorem dX5_plan_4 : decode cX5_plan 4 = .ok (.ifCond .ne 23, 3) := by decide +kernel
theorem dX5_plan_7 : decode cX5_plan 7 = .ok (.aload_n 0, 1) := by decide +kernel
theorem dX5_plan_8 : decode cX5_plan 8 = .ok (.getfield 22, 3) := by decide +kernel
theorem dX5_plan_11 : decode cX5_plan 11 = .ok (.aload_n 0, 1) := by decide +kernel
theorem dX5_plan_12 : decode cX5_plan 12 = .ok (.getfield 10, 3) := by decide +kernel
theorem dX5_plan_15 : decode cX5_plan 15 = .ok (.ldc_w 258, 3) := by decide +kernel
theorem dX5_plan_18 : decode cX5_plan 18 = .ok (.iconst 0, 1) := by decide +kernel
theorem dX5_plan_19 : decode cX5_plan 19 = .ok (.invokevirtual 259, 3) := by decide +kernel
theorem dX5_plan_22 : decode cX5_plan 22 = .ok (.aload_n 0, 1) := by decide +kernel
theorem dX5_plan_23 : decode cX5_plan 23 = .ok (.iconst 1, 1) := by decide +kernel
theorem dX5_plan_24 : decode cX5_plan 24 = .ok (.putfield 217, 3) := by decide +kernel
theorem dX5_plan_27 : decode cX5_plan 27 = .ok (.aload_n 0, 1) := by decide +kernel
theorem dX5_plan_28 : decode cX5_plan 28 = .ok (.getfield 22, 3) := by decide +kernel
theorem dX5_plan_31 : decode cX5_plan 31 = .ok (.areturn, 1) := by decide +kernel
theorem dX5_harmBehind_0 : decode cX5_harmBehind 0 = .ok (.aload_n 0, 1) := by decide +kernel
theorem dX5_harmBehind_1 : decode cX5_harmBehind 1 = .ok (.getfield 10, 3) := by decide +kernel
theorem dX5_harmBehind_4 : decode cX5_harmBehind 4 = .ok (.iload_n 1, 1) := by decide +kernel
theorem dX5_harmBehind_5 : decode cX5_harmBehind 5 = .ok (.invokevirtual 133, 3) := by decide +kernel
theorem dX5_harmBehind_8 : decode cX5_harmBehind 8 = .ok (.iconst (-1), 1) := by decide +kernel
theorem dX5_harmBehind_9 : decode cX5_harmBehind 9 = .ok (.if_icmp .ne 5, 3) := by decide +kernel
theorem dX5_harmBehind_12 : decode cX5_harmBehind 12 = .ok (.iconst (-1), 1) := by decide +kernel
theorem dX5_harmBehind_13 : decode cX5_harmBehind 13 = .ok (.ireturn, 1) := by decide +kernel
theorem dX5_harmBehind_14 : decode cX5_harmBehind 14 = .ok (.aload_n 0, 1) := by decide +kernel
theorem dX5_harmBehind_15 : decode cX5_harmBehind 15 = .ok (.getfield 16, 3) := by decide +kernel
theorem dX5_harmBehind_18 : decode cX5_harmBehind 18 = .ok (.aload_n 0, 1) := by decide +kernel
theorem dX5_harmBehind_19 : decode cX5_harmBehind 19 = .ok (.getfield 10, 3) := by decide +kernel
theorem dX5_harmBehind_22 : decode cX5_harmBehind 22 = .ok (.invokevirtual 224, 3) := by decide +kernel
theorem dX5_harmBehind_25 : decode cX5_harmBehind 25 = .ok (.aload_n 0, 1) := by decide +kernel
theorem dX5_harmBehind_26 : decode cX5_harmBehind 26 = .ok (.getfield 16, 3) := by decide +kernel
theorem dX5_harmBehind_29 : decode cX5_harmBehind 29 = .ok (.iload_n 1, 1) := by decide +kernel
theorem dX5_harmBehind_30 : decode cX5_harmBehind 30 = .ok (.invokevirtual 204, 3) := by decide +kernel
theorem dX5_harmBehind_33 : decode cX5_harmBehind 33 = .ok (.aload_n 0, 1) := by decide +kernel
theorem dX5_harmBehind_34 : decode cX5_harmBehind 34 = .ok (.getfield 16, 3) := by decide +kernel
theorem dX5_harmBehind_37 : decode cX5_harmBehind 37 = .ok (.invokevirtual 85, 3) := by decide +kernel
theorem dX5_harmBehind_40 : decode cX5_harmBehind 40 = .ok (.ireturn, 1) := by decide +kernel
theorem dX5_stockIfLate_0 : decode cX5_stockIfLate 0 = .ok (.aload_n 0, 1) := by decide +kernel
theorem dX5_stockIfLate_1 : decode cX5_stockIfLate 1 = .ok (.getfield 16, 3) := by decide +kernel
theorem dX5_stockIfLate_4 : decode cX5_stockIfLate 4 = .ok (.aload_n 0, 1) := by decide +kernel
theorem dX5_stockIfLate_5 : decode cX5_stockIfLate 5 = .ok (.getfield 10, 3) := by decide +kernel
theorem dX5_stockIfLate_8 : decode cX5_stockIfLate 8 = .ok (.invokevirtual 224, 3) := by decide +kernel
theorem dX5_stockIfLate_11 : decode cX5_stockIfLate 11 = .ok (.aload_n 0, 1) := by decide +kernel
theorem dX5_stockIfLate_12 : decode cX5_stockIfLate 12 = .ok (.getfield 16, 3) := by decide +kernel
theorem dX5_stockIfLate_15 : decode cX5_stockIfLate 15 = .ok (.iload_n 1, 1) := by decide +kernel
theorem dX5_stockIfLate_16 : decode cX5_stockIfLate 16 = .ok (.iload_n 2, 1) := by decide +kernel
theorem dX5_stockIfLate_17 : decode cX5_stockIfLate 17 = .ok (.invokevirtual 263, 3) := by decide +kernel
theorem dX5_stockIfLate_20 : decode cX5_stockIfLate 20 = .ok (.aload_n 0, 1) := by decide +kernel
theorem dX5_stockIfLate_21 : decode cX5_stockIfLate 21 = .ok (.getfield 16, 3) := by decide +kernel
theorem dX5_stockIfLate_24 : decode cX5_stockIfLate 24 = .ok (.invokevirtual 63, 3) := by decide +kernel
theorem dX5_stockIfLate_27 : decode cX5_stockIfLate 27 = .ok (.ireturn, 1) := by decide +kernel
theorem dX5_stockWithout_0 : decode cX5_stockWithout 0 = .ok (.aload_n 0, 1) := by decide +kernel
theorem dX5_stockWithout_1 : decode cX5_stockWithout 1 = .ok (.getfield 16, 3) := by decide +kernel
theorem dX5_stockWithout_4 : decode cX5_stockWithout 4 = .ok (.aload_n 0, 1) := by decide +kernel
theorem dX5_stockWithout_5 : decode cX5_stockWithout 5 = .ok (.getfield 10, 3) := by decide +kernel
theorem dX5_stockWithout_8 : decode cX5_stockWithout 8 = .ok (.invokevirtual 224, 3) := by decide +kernel
theorem dX5_stockWithout_11 : decode cX5_stockWithout 11 = .ok (.aload_n 0, 1) := by decide +kernel
theorem dX5_stockWithout_12 : decode cX5_stockWithout 12 = .ok (.getfield 16, 3) := by decide +kernel
theorem dX5_stockWithout_15 : decode cX5_stockWithout 15 = .ok (.iload_n 1, 1) := by decide +kernel
theorem dX5_stockWithout_16 : decode cX5_stockWithout 16 = .ok (.invokevirtual 194, 3) := by decide +kernel
theorem dX5_stockWithout_19 : decode cX5_stockWithout 19 = .ok (.aload_n 0, 1) := by decide +kernel
theorem dX5_stockWithout_20 : decode cX5_stockWithout 20 = .ok (.getfield 16, 3) := by decide +kernel
theorem dX5_stockWithout_23 : decode cX5_stockWithout 23 = .ok (.invokevirtual 63, 3) := by decide +kernel
theorem dX5_stockWithout_26 : decode cX5_stockWithout 26 = .ok (.ireturn, 1) := by decide +kernel
theorem dX5_mayWait_0 : decode cX5_mayWait 0 = .ok (.aload_n 0, 1) := by decide +kernel
theorem dX5_mayWait_1 : decode cX5_mayWait 1 = .ok (.invokevirtual 91, 3) := by decide +kernel
theorem dX5_mayWait_4 : decode cX5_mayWait 4 = .ok (.astore_n 1, 1) := by decide +kernel
theorem dX5_mayWait_5 : decode cX5_mayWait 5 = .ok (.aload_n 1, 1) := by decide +kernel
theorem dX5_mayWait_6 : decode cX5_mayWait 6 = .ok (.getfield 221, 3) := by decide +kernel
theorem dX5_mayWait_9 : decode cX5_mayWait 9 = .ok (.ifCond .ne 5, 3) := by decide +kernel
theorem dX5_mayWait_12 : decode cX5_mayWait 12 = .ok (.iconst (-1), 1) := by decide +kernel
theorem dX5_mayWait_13 : decode cX5_mayWait 13 = .ok (.ireturn, 1) := by decide +kernel
theorem dX5_mayWait_14 : decode cX5_mayWait 14 = .ok (.bipush 12, 2) := by decide +kernel
theorem dX5_mayWait_16 : decode cX5_mayWait 16 = .ok (.istore_n 2, 1) := by decide +kernel
theorem dX5_mayWait_17 : decode cX5_mayWait 17 = .ok (.iload_n 2, 1) := by decide +kernel
theorem dX5_mayWait_18 : decode cX5_mayWait 18 = .ok (.ifCond .le 53, 3) := by decide +kernel
theorem dX5_mayWait_21 : decode cX5_mayWait 21 = .ok (.aload_n 0, 1) := by decide +kernel
theorem dX5_mayWait_22 : decode cX5_mayWait 22 = .ok (.getfield 16, 3) := by decide +kernel
theorem dX5_mayWait_25 : decode cX5_mayWait 25 = .ok (.aload_n 0, 1) := by decide +kernel
theorem dX5_mayWait_26 : decode cX5_mayWait 26 = .ok (.getfield 10, 3) := by decide +kernel
theorem dX5_mayWait_29 : decode cX5_mayWait 29 = .ok (.invokevirtual 224, 3) := by decide +kernel
theorem dX5_mayWait_32 : decode cX5_mayWait 32 = .ok (.aload_n 0, 1) := by decide +kernel
theorem dX5_mayWait_33 : decode cX5_mayWait 33 = .ok (.getfield 16, 3) := by decide +kernel
theorem dX5_mayWait_36 : decode cX5_mayWait 36 = .ok (.dup, 1) := by decide +kernel
theorem dX5_mayWait_37 : decode cX5_mayWait 37 = .ok (.getfield 57, 3) := by decide +kernel
theorem dX5_mayWait_40 : decode cX5_mayWait 40 = .ok (.iload_n 2, 1) := by decide +kernel
theorem dX5_mayWait_41 : decode cX5_mayWait 41 = .ok (.iadd, 1) := by decide +kernel
theorem dX5_mayWait_42 : decode cX5_mayWait 42 = .ok (.putfield 57, 3) := by decide +kernel
theorem dX5_mayWait_45 : decode cX5_mayWait 45 = .ok (.aload_n 0, 1) := by decide +kernel
theorem dX5_mayWait_46 : decode cX5_mayWait 46 = .ok (.getfield 26, 3) := by decide +kernel
theorem dX5_mayWait_49 : decode cX5_mayWait 49 = .ok (.aload_n 0, 1) := by decide +kernel
theorem dX5_mayWait_50 : decode cX5_mayWait 50 = .ok (.getfield 16, 3) := by decide +kernel
theorem dX5_mayWait_53 : decode cX5_mayWait 53 = .ok (.aload_n 1, 1) := by decide +kernel
theorem dX5_mayWait_54 : decode cX5_mayWait 54 = .ok (.getfield 266, 3) := by decide +kernel
theorem dX5_mayWait_57 : decode cX5_mayWait 57 = .ok (.invokevirtual 269, 3) := by decide +kernel
theorem dX5_mayWait_60 : decode cX5_mayWait 60 = .ok (.ifCond .eq 5, 3) := by decide +kernel
theorem dX5_mayWait_63 : decode cX5_mayWait 63 = .ok (.iload_n 2, 1) := by decide +kernel
theorem dX5_mayWait_64 : decode cX5_mayWait 64 = .ok (.ireturn, 1) := by decide +kernel
theorem dX5_mayWait_65 : decode cX5_mayWait 65 = .ok (.iinc 2 (-1), 3) := by decide +kernel
theorem dX5_mayWait_68 : decode cX5_mayWait 68 = .ok (.goto (-51), 3) := by decide +kernel
theorem dX5_mayWait_71 : decode cX5_mayWait 71 = .ok (.iconst 0, 1) := by decide +kernel
theorem dX5_mayWait_72 : decode cX5_mayWait 72 = .ok (.ireturn, 1) := by decide +kernel
theorem dX5_mayBeLate_0 : decode cX5_mayBeLate 0 = .ok (.aload_n 0, 1) := by decide +kernel
theorem dX5_mayBeLate_1 : decode cX5_mayBeLate 1 = .ok (.invokevirtual 91, 3) := by decide +kernel
theorem dX5_mayBeLate_4 : decode cX5_mayBeLate 4 = .ok (.astore_n 2, 1) := by decide +kernel
theorem dX5_mayBeLate_5 : decode cX5_mayBeLate 5 = .ok (.aload_n 2, 1) := by decide +kernel
theorem dX5_mayBeLate_6 : decode cX5_mayBeLate 6 = .ok (.getfield 221, 3) := by decide +kernel
theorem dX5_mayBeLate_9 : decode cX5_mayBeLate 9 = .ok (.ifCond .ne 5, 3) := by decide +kernel
theorem dX5_mayBeLate_12 : decode cX5_mayBeLate 12 = .ok (.iconst (-1), 1) := by decide +kernel
theorem dX5_mayBeLate_13 : decode cX5_mayBeLate 13 = .ok (.ireturn, 1) := by decide +kernel
theorem dX5_mayBeLate_14 : decode cX5_mayBeLate 14 = .ok (.bipush 12, 2) := by decide +kernel
theorem dX5_mayBeLate_16 : decode cX5_mayBeLate 16 = .ok (.bipush 99, 2) := by decide +kernel
theorem dX5_mayBeLate_18 : decode cX5_mayBeLate 18 = .ok (.aload_n 0, 1) := by decide +kernel
theorem dX5_mayBeLate_19 : decode cX5_mayBeLate 19 = .ok (.getfield 10, 3) := by decide +kernel
theorem dX5_mayBeLate_22 : decode cX5_mayBeLate 22 = .ok (.getfield 155, 3) := by decide +kernel
theorem dX5_mayBeLate_25 : decode cX5_mayBeLate 25 = .ok (.iload_n 1, 1) := by decide +kernel
theorem dX5_mayBeLate_26 : decode cX5_mayBeLate 26 = .ok (.iaload, 1) := by decide +kernel
theorem dX5_mayBeLate_27 : decode cX5_mayBeLate 27 = .ok (.isub, 1) := by decide +kernel
theorem dX5_mayBeLate_28 : decode cX5_mayBeLate 28 = .ok (.invokestatic 273, 3) := by decide +kernel
theorem dX5_mayBeLate_31 : decode cX5_mayBeLate 31 = .ok (.istore_n 3, 1) := by decide +kernel
theorem dX5_mayBeLate_32 : decode cX5_mayBeLate 32 = .ok (.iload_n 3, 1) := by decide +kernel
theorem dX5_mayBeLate_33 : decode cX5_mayBeLate 33 = .ok (.istore 4, 2) := by decide +kernel
theorem dX5_mayBeLate_35 : decode cX5_mayBeLate 35 = .ok (.iload 4, 2) := by decide +kernel
theorem dX5_mayBeLate_37 : decode cX5_mayBeLate 37 = .ok (.ifCond .le 61, 3) := by decide +kernel
theorem dX5_mayBeLate_40 : decode cX5_mayBeLate 40 = .ok (.aload_n 0, 1) := by decide +kernel
theorem dX5_mayBeLate_41 : decode cX5_mayBeLate 41 = .ok (.getfield 16, 3) := by decide +kernel
theorem dX5_mayBeLate_44 : decode cX5_mayBeLate 44 = .ok (.aload_n 0, 1) := by decide +kernel
theorem dX5_mayBeLate_45 : decode cX5_mayBeLate 45 = .ok (.getfield 10, 3) := by decide +kernel
theorem dX5_mayBeLate_48 : decode cX5_mayBeLate 48 = .ok (.invokevirtual 224, 3) := by decide +kernel
theorem dX5_mayBeLate_51 : decode cX5_mayBeLate 51 = .ok (.aload_n 0, 1) := by decide +kernel
theorem dX5_mayBeLate_52 : decode cX5_mayBeLate 52 = .ok (.getfield 16, 3) := by decide +kernel
theorem dX5_mayBeLate_55 : decode cX5_mayBeLate 55 = .ok (.iload_n 1, 1) := by decide +kernel
theorem dX5_mayBeLate_56 : decode cX5_mayBeLate 56 = .ok (.iload 4, 2) := by decide +kernel
theorem dX5_mayBeLate_58 : decode cX5_mayBeLate 58 = .ok (.invokevirtual 263, 3) := by decide +kernel
theorem dX5_mayBeLate_61 : decode cX5_mayBeLate 61 = .ok (.aload_n 0, 1) := by decide +kernel
theorem dX5_mayBeLate_62 : decode cX5_mayBeLate 62 = .ok (.getfield 16, 3) := by decide +kernel
theorem dX5_mayBeLate_65 : decode cX5_mayBeLate 65 = .ok (.invokevirtual 63, 3) := by decide +kernel
theorem dX5_mayBeLate_68 : decode cX5_mayBeLate 68 = .ok (.ifCond .lt 24, 3) := by decide +kernel
theorem dX5_mayBeLate_71 : decode cX5_mayBeLate 71 = .ok (.aload_n 0, 1) := by decide +kernel
theorem dX5_mayBeLate_72 : decode cX5_mayBeLate 72 = .ok (.getfield 26, 3) := by decide +kernel
theorem dX5_mayBeLate_75 : decode cX5_mayBeLate 75 = .ok (.aload_n 0, 1) := by decide +kernel
theorem dX5_mayBeLate_76 : decode cX5_mayBeLate 76 = .ok (.getfield 16, 3) := by decide +kernel
theorem dX5_mayBeLate_79 : decode cX5_mayBeLate 79 = .ok (.aload_n 2, 1) := by decide +kernel
theorem dX5_mayBeLate_80 : decode cX5_mayBeLate 80 = .ok (.getfield 266, 3) := by decide +kernel
theorem dX5_mayBeLate_83 : decode cX5_mayBeLate 83 = .ok (.invokevirtual 269, 3) := by decide +kernel
theorem dX5_mayBeLate_86 : decode cX5_mayBeLate 86 = .ok (.ifCond .eq 6, 3) := by decide +kernel
theorem dX5_mayBeLate_89 : decode cX5_mayBeLate 89 = .ok (.iload 4, 2) := by decide +kernel
theorem dX5_mayBeLate_91 : decode cX5_mayBeLate 91 = .ok (.ireturn, 1) := by decide +kernel
theorem dX5_mayBeLate_92 : decode cX5_mayBeLate 92 = .ok (.iinc 4 (-1), 3) := by decide +kernel
theorem dX5_mayBeLate_95 : decode cX5_mayBeLate 95 = .ok (.goto (-60), 3) := by decide +kernel
theorem dX5_mayBeLate_98 : decode cX5_mayBeLate 98 = .ok (.iconst 0, 1) := by decide +kernel
theorem dX5_mayBeLate_99 : decode cX5_mayBeLate 99 = .ok (.ireturn, 1) := by decide +kernel
theorem dX5_imageAt_0 : decode cX5_imageAt 0 = .ok (.iload_n 1, 1) := by decide +kernel
theorem dX5_imageAt_1 : decode cX5_imageAt 1 = .ok (.ifCond .lt 21, 3) := by decide +kernel
theorem dX5_imageAt_4 : decode cX5_imageAt 4 = .ok (.iload_n 1, 1) := by decide +kernel
theorem dX5_imageAt_5 : decode cX5_imageAt 5 = .ok (.aload_n 0, 1) := by decide +kernel
theorem dX5_imageAt_6 : decode cX5_imageAt 6 = .ok (.getfield 45, 3) := by decide +kernel
theorem dX5_imageAt_9 : decode cX5_imageAt 9 = .ok (.arraylength, 1) := by decide +kernel
theorem dX5_imageAt_10 : decode cX5_imageAt 10 = .ok (.if_icmp .ge 12, 3) := by decide +kernel
theorem dX5_imageAt_13 : decode cX5_imageAt 13 = .ok (.aload_n 0, 1) := by decide +kernel
theorem dX5_imageAt_14 : decode cX5_imageAt 14 = .ok (.getfield 45, 3) := by decide +kernel
theorem dX5_imageAt_17 : decode cX5_imageAt 17 = .ok (.iload_n 1, 1) := by decide +kernel
theorem dX5_imageAt_18 : decode cX5_imageAt 18 = .ok (.aaload, 1) := by decide +kernel
theorem dX5_imageAt_19 : decode cX5_imageAt 19 = .ok (.goto 4, 3) := by decide +kernel
theorem dX5_imageAt_22 : decode cX5_imageAt 22 = .ok (.aconst_null, 1) := by decide +kernel
theorem dX5_imageAt_23 : decode cX5_imageAt 23 = .ok (.areturn, 1) := by decide +kernel
theorem dX5_draw_0 : decode cX5_draw 0 = .ok (.aload_n 0, 1) := by decide +kernel
theorem dX5_draw_1 : decode cX5_draw 1 = .ok (.aload_n 0, 1) := by decide +kernel
theorem dX5_draw_2 : decode cX5_draw 2 = .ok (.getfield 236, 3) := by decide +kernel
theorem dX5_draw_5 : decode cX5_draw 5 = .ok (.i2l, 1) := by decide +kernel
theorem dX5_draw_6 : decode cX5_draw 6 = .ok (.ldc2_w 278, 3) := by decide +kernel
theorem dX5_draw_9 : decode cX5_draw 9 = .ok (.lmul, 1) := by decide +kernel
theorem dX5_draw_10 : decode cX5_draw 10 = .ok (.ldc2_w 280, 3) := by decide +kernel
theorem dX5_draw_13 : decode cX5_draw 13 = .ok (.ladd, 1) := by decide +kernel
theorem dX5_draw_14 : decode cX5_draw 14 = .ok (.ldc2_w 282, 3) := by decide +kernel
theorem dX5_draw_17 : decode cX5_draw 17 = .ok (.land, 1) := by decide +kernel
theorem dX5_draw_18 : decode cX5_draw 18 = .ok (.l2i, 1) := by decide +kernel
theorem dX5_draw_19 : decode cX5_draw 19 = .ok (.putfield 236, 3) := by decide +kernel
theorem dX5_draw_22 : decode cX5_draw 22 = .ok (.iload_n 1, 1) := by decide +kernel
theorem dX5_draw_23 : decode cX5_draw 23 = .ok (.iconst 1, 1) := by decide +kernel
theorem dX5_draw_24 : decode cX5_draw 24 = .ok (.if_icmp .ge 7, 3) := by decide +kernel
theorem dX5_draw_27 : decode cX5_draw 27 = .ok (.iconst 0, 1) := by decide +kernel
theorem dX5_draw_28 : decode cX5_draw 28 = .ok (.goto 13, 3) := by decide +kernel
theorem dX5_draw_31 : decode cX5_draw 31 = .ok (.aload_n 0, 1) := by decide +kernel
theorem dX5_draw_32 : decode cX5_draw 32 = .ok (.getfield 236, 3) := by decide +kernel
theorem dX5_draw_35 : decode cX5_draw 35 = .ok (.ldc_w 284, 3) := by decide +kernel
theorem dX5_draw_38 : decode cX5_draw 38 = .ok (.idiv, 1) := by decide +kernel
theorem dX5_draw_39 : decode cX5_draw 39 = .ok (.iload_n 1, 1) := by decide +kernel
theorem dX5_draw_40 : decode cX5_draw 40 = .ok (.irem, 1) := by decide +kernel
theorem dX5_draw_41 : decode cX5_draw 41 = .ok (.ireturn, 1) := by decide +kernel
theorem dX5_driftOnce_0 : decode cX5_driftOnce 0 = .ok (.aload_n 0, 1) := by decide +kernel
theorem dX5_driftOnce_1 : decode cX5_driftOnce 1 = .ok (.invokevirtual 171, 3) := by decide +kernel
theorem dX5_driftOnce_4 : decode cX5_driftOnce 4 = .ok (.aload_n 0, 1) := by decide +kernel
theorem dX5_driftOnce_5 : decode cX5_driftOnce 5 = .ok (.iconst 4, 1) := by decide +kernel
theorem dX5_driftOnce_6 : decode cX5_driftOnce 6 = .ok (.invokevirtual 285, 3) := by decide +kernel
theorem dX5_driftOnce_9 : decode cX5_driftOnce 9 = .ok (.istore_n 1, 1) := by decide +kernel
theorem dX5_driftOnce_10 : decode cX5_driftOnce 10 = .ok (.aload_n 0, 1) := by decide +kernel
theorem dX5_driftOnce_11 : decode cX5_driftOnce 11 = .ok (.aload_n 0, 1) := by decide +kernel
theorem dX5_driftOnce_12 : decode cX5_driftOnce 12 = .ok (.getfield 10, 3) := by decide +kernel
theorem dX5_driftOnce_15 : decode cX5_driftOnce 15 = .ok (.getfield 288, 3) := by decide +kernel
theorem dX5_driftOnce_18 : decode cX5_driftOnce 18 = .ok (.invokevirtual 285, 3) := by decide +kernel
theorem dX5_driftOnce_21 : decode cX5_driftOnce 21 = .ok (.istore_n 2, 1) := by decide +kernel
theorem dX5_driftOnce_22 : decode cX5_driftOnce 22 = .ok (.aload_n 0, 1) := by decide +kernel
theorem dX5_driftOnce_23 : decode cX5_driftOnce 23 = .ok (.bipush 30, 2) := by decide +kernel
theorem dX5_driftOnce_25 : decode cX5_driftOnce 25 = .ok (.invokevirtual 285, 3) := by decide +kernel
theorem dX5_driftOnce_28 : decode cX5_driftOnce 28 = .ok (.istore_n 3, 1) := by decide +kernel
theorem dX5_driftOnce_29 : decode cX5_driftOnce 29 = .ok (.aload_n 0, 1) := by decide +kernel
theorem dX5_driftOnce_30 : decode cX5_driftOnce 30 = .ok (.iconst 4, 1) := by decide +kernel
theorem dX5_driftOnce_31 : decode cX5_driftOnce 31 = .ok (.invokevirtual 285, 3) := by decide +kernel
theorem dX5_driftOnce_34 : decode cX5_driftOnce 34 = .ok (.istore 4, 2) := by decide +kernel
theorem dX5_driftOnce_36 : decode cX5_driftOnce 36 = .ok (.iload_n 1, 1) := by decide +kernel
theorem dX5_driftOnce_37 : decode cX5_driftOnce 37 = .ok (.iconst 2, 1) := by decide +kernel
theorem dX5_driftOnce_38 : decode cX5_driftOnce 38 = .ok (.if_icmp .ge 50, 3) := by decide +kernel
theorem dX5_driftOnce_41 : decode cX5_driftOnce 41 = .ok (.aload_n 0, 1) := by decide +kernel
theorem dX5_driftOnce_42 : decode cX5_driftOnce 42 = .ok (.getfield 10, 3) := by decide +kernel
theorem dX5_driftOnce_45 : decode cX5_driftOnce 45 = .ok (.invokevirtual 178, 3) := by decide +kernel
theorem dX5_driftOnce_48 : decode cX5_driftOnce 48 = .ok (.ifCond .eq 93, 3) := by decide +kernel
theorem dX5_driftOnce_51 : decode cX5_driftOnce 51 = .ok (.aload_n 0, 1) := by decide +kernel
theorem dX5_driftOnce_52 : decode cX5_driftOnce 52 = .ok (.getfield 10, 3) := by decide +kernel
theorem dX5_driftOnce_55 : decode cX5_driftOnce 55 = .ok (.getfield 57, 3) := by decide +kernel
theorem dX5_driftOnce_58 : decode cX5_driftOnce 58 = .ok (.iload_n 3, 1) := by decide +kernel
theorem dX5_driftOnce_59 : decode cX5_driftOnce 59 = .ok (.iadd, 1) := by decide +kernel
theorem dX5_driftOnce_60 : decode cX5_driftOnce 60 = .ok (.bipush 99, 2) := by decide +kernel
theorem dX5_driftOnce_62 : decode cX5_driftOnce 62 = .ok (.if_icmp .gt 79, 3) := by decide +kernel
theorem dX5_driftOnce_65 : decode cX5_driftOnce 65 = .ok (.aload_n 0, 1) := by decide +kernel
theorem dX5_driftOnce_66 : decode cX5_driftOnce 66 = .ok (.getfield 10, 3) := by decide +kernel
theorem dX5_driftOnce_69 : decode cX5_driftOnce 69 = .ok (.aload_n 0, 1) := by decide +kernel
theorem dX5_driftOnce_70 : decode cX5_driftOnce 70 = .ok (.getfield 10, 3) := by decide +kernel
theorem dX5_driftOnce_73 : decode cX5_driftOnce 73 = .ok (.getfield 57, 3) := by decide +kernel
theorem dX5_driftOnce_76 : decode cX5_driftOnce 76 = .ok (.iload_n 3, 1) := by decide +kernel
theorem dX5_driftOnce_77 : decode cX5_driftOnce 77 = .ok (.iadd, 1) := by decide +kernel
theorem dX5_driftOnce_78 : decode cX5_driftOnce 78 = .ok (.iload 4, 2) := by decide +kernel
theorem dX5_driftOnce_80 : decode cX5_driftOnce 80 = .ok (.iconst 1, 1) := by decide +kernel
theorem dX5_driftOnce_81 : decode cX5_driftOnce 81 = .ok (.iadd, 1) := by decide +kernel
theorem dX5_driftOnce_82 : decode cX5_driftOnce 82 = .ok (.invokevirtual 183, 3) := by decide +kernel
theorem dX5_driftOnce_85 : decode cX5_driftOnce 85 = .ok (.goto 56, 3) := by decide +kernel
theorem dX5_driftOnce_88 : decode cX5_driftOnce 88 = .ok (.iload_n 1, 1) := by decide +kernel
theorem dX5_driftOnce_89 : decode cX5_driftOnce 89 = .ok (.iconst 2, 1) := by decide +kernel
theorem dX5_driftOnce_90 : decode cX5_driftOnce 90 = .ok (.if_icmp .ne 14, 3) := by decide +kernel
theorem dX5_driftOnce_93 : decode cX5_driftOnce 93 = .ok (.aload_n 0, 1) := by decide +kernel
theorem dX5_driftOnce_94 : decode cX5_driftOnce 94 = .ok (.getfield 10, 3) := by decide +kernel
theorem dX5_driftOnce_97 : decode cX5_driftOnce 97 = .ok (.iload_n 2, 1) := by decide +kernel
theorem dX5_driftOnce_98 : decode cX5_driftOnce 98 = .ok (.invokevirtual 204, 3) := by decide +kernel
theorem dX5_driftOnce_101 : decode cX5_driftOnce 101 = .ok (.goto 40, 3) := by decide +kernel
theorem dX5_driftOnce_104 : decode cX5_driftOnce 104 = .ok (.aload_n 0, 1) := by decide +kernel
theorem dX5_driftOnce_105 : decode cX5_driftOnce 105 = .ok (.getfield 10, 3) := by decide +kernel
theorem dX5_driftOnce_108 : decode cX5_driftOnce 108 = .ok (.iload_n 2, 1) := by decide +kernel
theorem dX5_driftOnce_109 : decode cX5_driftOnce 109 = .ok (.invokevirtual 118, 3) := by decide +kernel
theorem dX5_driftOnce_112 : decode cX5_driftOnce 112 = .ok (.ifCond .eq 29, 3) := by decide +kernel
theorem dX5_driftOnce_115 : decode cX5_driftOnce 115 = .ok (.aload_n 0, 1) := by decide +kernel
theorem dX5_driftOnce_116 : decode cX5_driftOnce 116 = .ok (.getfield 10, 3) := by decide +kernel
theorem dX5_driftOnce_119 : decode cX5_driftOnce 119 = .ok (.iload_n 2, 1) := by decide +kernel
theorem dX5_driftOnce_120 : decode cX5_driftOnce 120 = .ok (.invokevirtual 198, 3) := by decide +kernel
theorem dX5_driftOnce_123 : decode cX5_driftOnce 123 = .ok (.ifCond .ne 18, 3) := by decide +kernel
theorem dX5_driftOnce_126 : decode cX5_driftOnce 126 = .ok (.aload_n 0, 1) := by decide +kernel
theorem dX5_driftOnce_127 : decode cX5_driftOnce 127 = .ok (.getfield 10, 3) := by decide +kernel
theorem dX5_driftOnce_130 : decode cX5_driftOnce 130 = .ok (.getfield 123, 3) := by decide +kernel
theorem dX5_driftOnce_133 : decode cX5_driftOnce 133 = .ok (.iload_n 2, 1) := by decide +kernel
theorem dX5_driftOnce_134 : decode cX5_driftOnce 134 = .ok (.iconst 1, 1) := by decide +kernel
theorem dX5_driftOnce_135 : decode cX5_driftOnce 135 = .ok (.iload 4, 2) := by decide +kernel
theorem dX5_driftOnce_137 : decode cX5_driftOnce 137 = .ok (.invokestatic 291, 3) := by decide +kernel
theorem dX5_driftOnce_140 : decode cX5_driftOnce 140 = .ok (.iastore, 1) := by decide +kernel
theorem dX5_driftOnce_141 : decode cX5_driftOnce 141 = .ok (.return_, 1) := by decide +kernel
theorem dX5_copyRow_0 : decode cX5_copyRow 0 = .ok (.iconst 0, 1) := by decide +kernel
theorem dX5_copyRow_1 : decode cX5_copyRow 1 = .ok (.istore_n 2, 1) := by decide +kernel
theorem dX5_copyRow_2 : decode cX5_copyRow 2 = .ok (.iload_n 2, 1) := by decide +kernel
theorem dX5_copyRow_3 : decode cX5_copyRow 3 = .ok (.aload_n 0, 1) := by decide +kernel
theorem dX5_copyRow_4 : decode cX5_copyRow 4 = .ok (.arraylength, 1) := by decide +kernel
theorem dX5_copyRow_5 : decode cX5_copyRow 5 = .ok (.if_icmp .ge 21, 3) := by decide +kernel
theorem dX5_copyRow_8 : decode cX5_copyRow 8 = .ok (.iload_n 2, 1) := by decide +kernel
theorem dX5_copyRow_9 : decode cX5_copyRow 9 = .ok (.aload_n 1, 1) := by decide +kernel
theorem dX5_copyRow_10 : decode cX5_copyRow 10 = .ok (.arraylength, 1) := by decide +kernel
theorem dX5_copyRow_11 : decode cX5_copyRow 11 = .ok (.if_icmp .ge 15, 3) := by decide +kernel
theorem dX5_copyRow_14 : decode cX5_copyRow 14 = .ok (.aload_n 1, 1) := by decide +kernel
theorem dX5_copyRow_15 : decode cX5_copyRow 15 = .ok (.iload_n 2, 1) := by decide +kernel
theorem dX5_copyRow_16 : decode cX5_copyRow 16 = .ok (.aload_n 0, 1) := by decide +kernel
theorem dX5_copyRow_17 : decode cX5_copyRow 17 = .ok (.iload_n 2, 1) := by decide +kernel
theorem dX5_copyRow_18 : decode cX5_copyRow 18 = .ok (.iaload, 1) := by decide +kernel
theorem dX5_copyRow_19 : decode cX5_copyRow 19 = .ok (.iastore, 1) := by decide +kernel
theorem dX5_copyRow_20 : decode cX5_copyRow 20 = .ok (.iinc 2 1, 3) := by decide +kernel
theorem dX5_copyRow_23 : decode cX5_copyRow 23 = .ok (.goto (-21), 3) := by decide +kernel
theorem dX5_copyRow_26 : decode cX5_copyRow 26 = .ok (.return_, 1) := by decide +kernel
theorem dX5_fillRow_0 : decode cX5_fillRow 0 = .ok (.iconst 0, 1) := by decide +kernel
theorem dX5_fillRow_1 : decode cX5_fillRow 1 = .ok (.istore_n 2, 1) := by decide +kernel
theorem dX5_fillRow_2 : decode cX5_fillRow 2 = .ok (.iload_n 2, 1) := by decide +kernel
theorem dX5_fillRow_3 : decode cX5_fillRow 3 = .ok (.aload_n 0, 1) := by decide +kernel
theorem dX5_fillRow_4 : decode cX5_fillRow 4 = .ok (.arraylength, 1) := by decide +kernel
theorem dX5_fillRow_5 : decode cX5_fillRow 5 = .ok (.if_icmp .ge 13, 3) := by decide +kernel
theorem dX5_fillRow_8 : decode cX5_fillRow 8 = .ok (.aload_n 0, 1) := by decide +kernel
theorem dX5_fillRow_9 : decode cX5_fillRow 9 = .ok (.iload_n 2, 1) := by decide +kernel
theorem dX5_fillRow_10 : decode cX5_fillRow 10 = .ok (.iload_n 1, 1) := by decide +kernel
theorem dX5_fillRow_11 : decode cX5_fillRow 11 = .ok (.iastore, 1) := by decide +kernel
theorem dX5_fillRow_12 : decode cX5_fillRow 12 = .ok (.iinc 2 1, 3) := by decide +kernel
theorem dX5_fillRow_15 : decode cX5_fillRow 15 = .ok (.goto (-13), 3) := by decide +kernel
theorem dX5_fillRow_18 : decode cX5_fillRow 18 = .ok (.return_, 1) := by decide +kernel
end
section
theorem dX6_init_0 : decode cX6_init 0 = .ok (.aload_n 0, 1) := by decide +kernel
theorem dX6_init_1 : decode cX6_init 1 = .ok (.invokespecial 1, 3) := by decide +kernel
theorem dX6_init_4 : decode cX6_init 4 = .ok (.aload_n 0, 1) := by decide +kernel
theorem dX6_init_5 : decode cX6_init 5 = .ok (.sipush 1300, 3) := by decide +kernel
theorem dX6_init_8 : decode cX6_init 8 = .ok (.newarray .int, 2) := by decide +kernel
theorem dX6_init_10 : decode cX6_init 10 = .ok (.putfield 7, 3) := by decide +kernel
theorem dX6_init_13 : decode cX6_init 13 = .ok (.aload_n 0, 1) := by decide +kernel
theorem dX6_init_14 : decode cX6_init 14 = .ok (.iconst 2, 1) := by decide +kernel
theorem dX6_init_15 : decode cX6_init 15 = .ok (.newarray .int, 2) := by decide +kernel
theorem dX6_init_17 : decode cX6_init 17 = .ok (.putfield 13, 3) := by decide +kernel
theorem dX6_init_20 : decode cX6_init 20 = .ok (.aload_n 0, 1) := by decide +kernel
theorem dX6_init_21 : decode cX6_init 21 = .ok (.iconst 2, 1) := by decide +kernel
theorem dX6_init_22 : decode cX6_init 22 = .ok (.newarray .boolean, 2) := by decide +kernel
theorem dX6_init_24 : decode cX6_init 24 = .ok (.putfield 16, 3) := by decide +kernel
theorem dX6_init_27 : decode cX6_init 27 = .ok (.aload_n 0, 1) := by decide +kernel
theorem dX6_init_28 : decode cX6_init 28 = .ok (.bipush 20, 2) := by decide +kernel
theorem dX6_init_30 : decode cX6_init 30 = .ok (.newarray .int, 2) := by decide +kernel
theorem dX6_init_32 : decode cX6_init 32 = .ok (.putfield 20, 3) := by decide +kernel
theorem dX6_init_35 : decode cX6_init 35 = .ok (.aload_n 0, 1) := by decide +kernel
theorem dX6_init_36 : decode cX6_init 36 = .ok (.bipush 20, 2) := by decide +kernel
theorem dX6_init_38 : decode cX6_init 38 = .ok (.newarray .boolean, 2) := by decide +kernel
theorem dX6_init_40 : decode cX6_init 40 = .ok (.putfield 23, 3) := by decide +kernel
theorem dX6_init_43 : decode cX6_init 43 = .ok (.aload_n 0, 1) := by decide +kernel
theorem dX6_init_44 : decode cX6_init 44 = .ok (.bipush 9, 2) := by decide +kernel
theorem dX6_init_46 : decode cX6_init 46 = .ok (.newarray .int, 2) := by decide +kernel
theorem dX6_init_48 : decode cX6_init 48 = .ok (.putfield 26, 3) := by decide +kernel
theorem dX6_init_51 : decode cX6_init 51 = .ok (.aload_n 0, 1) := by decide +kernel
theorem dX6_init_52 : decode cX6_init 52 = .ok (.bipush 10, 2) := by decide +kernel
theorem dX6_init_54 : decode cX6_init 54 = .ok (.newarray .int, 2) := by decide +kernel
theorem dX6_init_56 : decode cX6_init 56 = .ok (.putfield 29, 3) := by decide +kernel
theorem dX6_init_59 : decode cX6_init 59 = .ok (.aload_n 0, 1) := by decide +kernel
theorem dX6_init_60 : decode cX6_init 60 = .ok (.bipush 10, 2) := by decide +kernel
theorem dX6_init_62 : decode cX6_init 62 = .ok (.newarray .int, 2) := by decide +kernel
theorem dX6_init_64 : decode cX6_init 64 = .ok (.putfield 32, 3) := by decide +kernel
theorem dX6_init_67 : decode cX6_init 67 = .ok (.aload_n 0, 1) := by decide +kernel
theorem dX6_init_68 : decode cX6_init 68 = .ok (.iconst 3, 1) := by decide +kernel
theorem dX6_init_69 : decode cX6_init 69 = .ok (.iconst 2, 1) := by decide +kernel
theorem dX6_init_70 : decode cX6_init 70 = .ok (.invokevirtual 35, 3) := by decide +kernel
theorem dX6_init_73 : decode cX6_init 73 = .ok (.aload_n 0, 1) := by decide +kernel
theorem dX6_init_74 : decode cX6_init 74 = .ok (.getfield 7, 3) := by decide +kernel
theorem dX6_init_77 : decode cX6_init 77 = .ok (.iconst 4, 1) := by decide +kernel
theorem dX6_init_78 : decode cX6_init 78 = .ok (.bipush 6, 2) := by decide +kernel
theorem dX6_init_80 : decode cX6_init 80 = .ok (.iastore, 1) := by decide +kernel
theorem dX6_init_81 : decode cX6_init 81 = .ok (.aload_n 0, 1) := by decide +kernel
theorem dX6_init_82 : decode cX6_init 82 = .ok (.getfield 7, 3) := by decide +kernel
theorem dX6_init_85 : decode cX6_init 85 = .ok (.iconst 5, 1) := by decide +kernel
theorem dX6_init_86 : decode cX6_init 86 = .ok (.iconst 3, 1) := by decide +kernel
theorem dX6_init_87 : decode cX6_init 87 = .ok (.iastore, 1) := by decide +kernel
theorem dX6_init_88 : decode cX6_init 88 = .ok (.aload_n 0, 1) := by decide +kernel
theorem dX6_init_89 : decode cX6_init 89 = .ok (.getfield 7, 3) := by decide +kernel
theorem dX6_init_92 : decode cX6_init 92 = .ok (.bipush 6, 2) := by decide +kernel
theorem dX6_init_94 : decode cX6_init 94 = .ok (.iconst 1, 1) := by decide +kernel
theorem dX6_init_95 : decode cX6_init 95 = .ok (.iastore, 1) := by decide +kernel
theorem dX6_init_96 : decode cX6_init 96 = .ok (.return_, 1) := by decide +kernel
theorem dX6_in_0 : decode cX6_in 0 = .ok (.lload_n 0, 1) := by decide +kernel
theorem dX6_in_1 : decode cX6_in 1 = .ok (.lload_n 2, 1) := by decide +kernel
theorem dX6_in_2 : decode cX6_in 2 = .ok (.lcmp, 1) := by decide +kernel
theorem dX6_in_3 : decode cX6_in 3 = .ok (.ifCond .lt 14, 3) := by decide +kernel
theorem dX6_in_6 : decode cX6_in 6 = .ok (.lload_n 0, 1) := by decide +kernel
theorem dX6_in_7 : decode cX6_in 7 = .ok (.lload 4, 2) := by decide +kernel
theorem dX6_in_9 : decode cX6_in 9 = .ok (.lcmp, 1) := by decide +kernel
theorem dX6_in_10 : decode cX6_in 10 = .ok (.ifCond .gt 7, 3) := by decide +kernel
theorem dX6_in_13 : decode cX6_in 13 = .ok (.iconst 1, 1) := by decide +kernel
theorem dX6_in_14 : decode cX6_in 14 = .ok (.goto 4, 3) := by decide +kernel
theorem dX6_in_17 : decode cX6_in 17 = .ok (.iconst 0, 1) := by decide +kernel
theorem dX6_in_18 : decode cX6_in 18 = .ok (.ireturn, 1) := by decide +kernel
theorem dX6_copy_0 : decode cX6_copy 0 = .ok (.iconst 0, 1) := by decide +kernel
theorem dX6_copy_1 : decode cX6_copy 1 = .ok (.istore_n 3, 1) := by decide +kernel
theorem dX6_copy_2 : decode cX6_copy 2 = .ok (.iload_n 3, 1) := by decide +kernel
theorem dX6_copy_3 : decode cX6_copy 3 = .ok (.bipush 52, 2) := by decide +kernel
theorem dX6_copy_5 : decode cX6_copy 5 = .ok (.if_icmp .ge 25, 3) := by decide +kernel
theorem dX6_copy_8 : decode cX6_copy 8 = .ok (.aload_n 0, 1) := by decide +kernel
theorem dX6_copy_9 : decode cX6_copy 9 = .ok (.getfield 7, 3) := by decide +kernel
theorem dX6_copy_12 : decode cX6_copy 12 = .ok (.iload_n 2, 1) := by decide +kernel
theorem dX6_copy_13 : decode cX6_copy 13 = .ok (.iload_n 3, 1) := by decide +kernel
theorem dX6_copy_14 : decode cX6_copy 14 = .ok (.iadd, 1) := by decide +kernel
theorem dX6_copy_15 : decode cX6_copy 15 = .ok (.aload_n 0, 1) := by decide +kernel
theorem dX6_copy_16 : decode cX6_copy 16 = .ok (.getfield 7, 3) := by decide +kernel
theorem dX6_copy_19 : decode cX6_copy 19 = .ok (.iload_n 1, 1) := by decide +kernel
theorem dX6_copy_20 : decode cX6_copy 20 = .ok (.iload_n 3, 1) := by decide +kernel
theorem dX6_copy_21 : decode cX6_copy 21 = .ok (.iadd, 1) := by decide +kernel
theorem dX6_copy_22 : decode cX6_copy 22 = .ok (.iaload, 1) := by decide +kernel
theorem dX6_copy_23 : decode cX6_copy 23 = .ok (.iastore, 1) := by decide +kernel
theorem dX6_copy_24 : decode cX6_copy 24 = .ok (.iinc 3 1, 3) := by decide +kernel
theorem dX6_copy_27 : decode cX6_copy 27 = .ok (.goto (-25), 3) := by decide +kernel
theorem dX6_copy_30 : decode cX6_copy 30 = .ok (.return_, 1) := by decide +kernel
theorem dX6_builds_0 : decode cX6_builds 0 = .ok (.aload_n 0, 1) := by decide +kernel
theorem dX6_builds_1 : decode cX6_builds 1 = .ok (.getfield 7, 3) := by decide +kernel
theorem dX6_builds_4 : decode cX6_builds 4 = .ok (.iconst 0, 1) := by decide +kernel
theorem dX6_builds_5 : decode cX6_builds 5 = .ok (.iload_n 1, 1) := by decide +kernel
theorem dX6_builds_6 : decode cX6_builds 6 = .ok (.iastore, 1) := by decide +kernel
theorem dX6_builds_7 : decode cX6_builds 7 = .ok (.aload_n 0, 1) := by decide +kernel
theorem dX6_builds_8 : decode cX6_builds 8 = .ok (.getfield 7, 3) := by decide +kernel
theorem dX6_builds_11 : decode cX6_builds 11 = .ok (.iconst 1, 1) := by decide +kernel
theorem dX6_builds_12 : decode cX6_builds 12 = .ok (.iload_n 2, 1) := by decide +kernel
theorem dX6_builds_13 : decode cX6_builds 13 = .ok (.iastore, 1) := by decide +kernel
theorem dX6_builds_14 : decode cX6_builds 14 = .ok (.aload_n 0, 1) := by decide +kernel
theorem dX6_builds_15 : decode cX6_builds 15 = .ok (.getfield 7, 3) := by decide +kernel
theorem dX6_builds_18 : decode cX6_builds 18 = .ok (.iconst 2, 1) := by decide +kernel
theorem dX6_builds_19 : decode cX6_builds 19 = .ok (.iconst 0, 1) := by decide +kernel
theorem dX6_builds_20 : decode cX6_builds 20 = .ok (.iastore, 1) := by decide +kernel
theorem dX6_builds_21 : decode cX6_builds 21 = .ok (.aload_n 0, 1) := by decide +kernel
theorem dX6_builds_22 : decode cX6_builds 22 = .ok (.getfield 7, 3) := by decide +kernel
theorem dX6_builds_25 : decode cX6_builds 25 = .ok (.iconst 3, 1) := by decide +kernel
theorem dX6_builds_26 : decode cX6_builds 26 = .ok (.iconst 0, 1) := by decide +kernel
theorem dX6_builds_27 : decode cX6_builds 27 = .ok (.iastore, 1) := by decide +kernel
theorem dX6_builds_28 : decode cX6_builds 28 = .ok (.iconst 0, 1) := by decide +kernel
theorem dX6_builds_29 : decode cX6_builds 29 = .ok (.istore_n 3, 1) := by decide +kernel
theorem dX6_builds_30 : decode cX6_builds 30 = .ok (.iload_n 3, 1) := by decide +kernel
theorem dX6_builds_31 : decode cX6_builds 31 = .ok (.bipush 9, 2) := by decide +kernel
theorem dX6_builds_33 : decode cX6_builds 33 = .ok (.if_icmp .ge 39, 3) := by decide +kernel
theorem dX6_builds_36 : decode cX6_builds 36 = .ok (.aload_n 0, 1) := by decide +kernel
theorem dX6_builds_37 : decode cX6_builds 37 = .ok (.getfield 7, 3) := by decide +kernel
theorem dX6_builds_40 : decode cX6_builds 40 = .ok (.bipush 25, 2) := by decide +kernel
theorem dX6_builds_42 : decode cX6_builds 42 = .ok (.iload_n 3, 1) := by decide +kernel
theorem dX6_builds_43 : decode cX6_builds 43 = .ok (.iadd, 1) := by decide +kernel
theorem dX6_builds_44 : decode cX6_builds 44 = .ok (.iconst 1, 1) := by decide +kernel
theorem dX6_builds_45 : decode cX6_builds 45 = .ok (.iastore, 1) := by decide +kernel
theorem dX6_builds_46 : decode cX6_builds 46 = .ok (.aload_n 0, 1) := by decide +kernel
theorem dX6_builds_47 : decode cX6_builds 47 = .ok (.getfield 7, 3) := by decide +kernel
theorem dX6_builds_50 : decode cX6_builds 50 = .ok (.bipush 34, 2) := by decide +kernel
theorem dX6_builds_52 : decode cX6_builds 52 = .ok (.iload_n 3, 1) := by decide +kernel
theorem dX6_builds_53 : decode cX6_builds 53 = .ok (.iadd, 1) := by decide +kernel
theorem dX6_builds_54 : decode cX6_builds 54 = .ok (.iconst (-1), 1) := by decide +kernel
theorem dX6_builds_55 : decode cX6_builds 55 = .ok (.iastore, 1) := by decide +kernel
theorem dX6_builds_56 : decode cX6_builds 56 = .ok (.aload_n 0, 1) := by decide +kernel
theorem dX6_builds_57 : decode cX6_builds 57 = .ok (.getfield 7, 3) := by decide +kernel
theorem dX6_builds_60 : decode cX6_builds 60 = .ok (.bipush 43, 2) := by decide +kernel
theorem dX6_builds_62 : decode cX6_builds 62 = .ok (.iload_n 3, 1) := by decide +kernel
theorem dX6_builds_63 : decode cX6_builds 63 = .ok (.iadd, 1) := by decide +kernel
theorem dX6_builds_64 : decode cX6_builds 64 = .ok (.iconst (-1), 1) := by decide +kernel
theorem dX6_builds_65 : decode cX6_builds 65 = .ok (.iastore, 1) := by decide +kernel
theorem dX6_builds_66 : decode cX6_builds 66 = .ok (.iinc 3 1, 3) := by decide +kernel
theorem dX6_builds_69 : decode cX6_builds 69 = .ok (.goto (-39), 3) := by decide +kernel
theorem dX6_builds_72 : decode cX6_builds 72 = .ok (.return_, 1) := by decide +kernel
theorem dX6_minds_0 : decode cX6_minds 0 = .ok (.aload_n 0, 1) := by decide +kernel
theorem dX6_minds_1 : decode cX6_minds 1 = .ok (.getfield 39, 3) := by decide +kernel
theorem dX6_minds_4 : decode cX6_minds 4 = .ok (.bipush 20, 2) := by decide +kernel
theorem dX6_minds_6 : decode cX6_minds 6 = .ok (.if_icmp .ne 51, 3) := by decide +kernel
theorem dX6_minds_9 : decode cX6_minds 9 = .ok (.iconst 0, 1) := by decide +kernel
theorem dX6_minds_10 : decode cX6_minds 10 = .ok (.istore_n 1, 1) := by decide +kernel
theorem dX6_minds_11 : decode cX6_minds 11 = .ok (.iload_n 1, 1) := by decide +kernel
theorem dX6_minds_12 : decode cX6_minds 12 = .ok (.sipush 988, 3) := by decide +kernel
theorem dX6_minds_15 : decode cX6_minds 15 = .ok (.if_icmp .ge 32, 3) := by decide +kernel
theorem dX6_minds_18 : decode cX6_minds 18 = .ok (.aload_n 0, 1) := by decide +kernel
theorem dX6_minds_19 : decode cX6_minds 19 = .ok (.getfield 7, 3) := by decide +kernel
theorem dX6_minds_22 : decode cX6_minds 22 = .ok (.sipush 260, 3) := by decide +kernel
theorem dX6_minds_25 : decode cX6_minds 25 = .ok (.iload_n 1, 1) := by decide +kernel
theorem dX6_minds_26 : decode cX6_minds 26 = .ok (.iadd, 1) := by decide +kernel
theorem dX6_minds_27 : decode cX6_minds 27 = .ok (.aload_n 0, 1) := by decide +kernel
theorem dX6_minds_28 : decode cX6_minds 28 = .ok (.getfield 7, 3) := by decide +kernel
theorem dX6_minds_31 : decode cX6_minds 31 = .ok (.sipush 260, 3) := by decide +kernel
theorem dX6_minds_34 : decode cX6_minds 34 = .ok (.iload_n 1, 1) := by decide +kernel
theorem dX6_minds_35 : decode cX6_minds 35 = .ok (.iadd, 1) := by decide +kernel
theorem dX6_minds_36 : decode cX6_minds 36 = .ok (.bipush 52, 2) := by decide +kernel
theorem dX6_minds_38 : decode cX6_minds 38 = .ok (.iadd, 1) := by decide +kernel
theorem dX6_minds_39 : decode cX6_minds 39 = .ok (.iaload, 1) := by decide +kernel
theorem dX6_minds_40 : decode cX6_minds 40 = .ok (.iastore, 1) := by decide +kernel
theorem dX6_minds_41 : decode cX6_minds 41 = .ok (.iinc 1 1, 3) := by decide +kernel
theorem dX6_minds_44 : decode cX6_minds 44 = .ok (.goto (-33), 3) := by decide +kernel
theorem dX6_minds_47 : decode cX6_minds 47 = .ok (.aload_n 0, 1) := by decide +kernel
theorem dX6_minds_48 : decode cX6_minds 48 = .ok (.dup, 1) := by decide +kernel
theorem dX6_minds_49 : decode cX6_minds 49 = .ok (.getfield 39, 3) := by decide +kernel
theorem dX6_minds_52 : decode cX6_minds 52 = .ok (.iconst 1, 1) := by decide +kernel
theorem dX6_minds_53 : decode cX6_minds 53 = .ok (.isub, 1) := by decide +kernel
theorem dX6_minds_54 : decode cX6_minds 54 = .ok (.putfield 39, 3) := by decide +kernel
theorem dX6_minds_57 : decode cX6_minds 57 = .ok (.aload_n 0, 1) := by decide +kernel
theorem dX6_minds_58 : decode cX6_minds 58 = .ok (.iconst 0, 1) := by decide +kernel
theorem dX6_minds_59 : decode cX6_minds 59 = .ok (.sipush 260, 3) := by decide +kernel
theorem dX6_minds_62 : decode cX6_minds 62 = .ok (.bipush 52, 2) := by decide +kernel
theorem dX6_minds_64 : decode cX6_minds 64 = .ok (.aload_n 0, 1) := by decide +kernel
theorem dX6_minds_65 : decode cX6_minds 65 = .ok (.getfield 39, 3) := by decide +kernel
theorem dX6_minds_68 : decode cX6_minds 68 = .ok (.imul, 1) := by decide +kernel
theorem dX6_minds_69 : decode cX6_minds 69 = .ok (.iadd, 1) := by decide +kernel
theorem dX6_minds_70 : decode cX6_minds 70 = .ok (.invokevirtual 43, 3) := by decide +kernel
theorem dX6_minds_73 : decode cX6_minds 73 = .ok (.aload_n 0, 1) := by decide +kernel
theorem dX6_minds_74 : decode cX6_minds 74 = .ok (.dup, 1) := by decide +kernel
theorem dX6_minds_75 : decode cX6_minds 75 = .ok (.getfield 39, 3) := by decide +kernel
theorem dX6_minds_78 : decode cX6_minds 78 = .ok (.iconst 1, 1) := by decide +kernel
theorem dX6_minds_79 : decode cX6_minds 79 = .ok (.iadd, 1) := by decide +kernel
theorem dX6_minds_80 : decode cX6_minds 80 = .ok (.putfield 39, 3) := by decide +kernel
theorem dX6_minds_83 : decode cX6_minds 83 = .ok (.return_, 1) := by decide +kernel
theorem dX6_cells_0 : decode cX6_cells 0 = .ok (.aload_n 0, 1) := by decide +kernel
theorem dX6_cells_1 : decode cX6_cells 1 = .ok (.getfield 7, 3) := by decide +kernel
theorem dX6_cells_4 : decode cX6_cells 4 = .ok (.iconst 0, 1) := by decide +kernel
theorem dX6_cells_5 : decode cX6_cells 5 = .ok (.iaload, 1) := by decide +kernel
theorem dX6_cells_6 : decode cX6_cells 6 = .ok (.aload_n 0, 1) := by decide +kernel
theorem dX6_cells_7 : decode cX6_cells 7 = .ok (.getfield 7, 3) := by decide +kernel
theorem dX6_cells_10 : decode cX6_cells 10 = .ok (.iconst 1, 1) := by decide +kernel
theorem dX6_cells_11 : decode cX6_cells 11 = .ok (.iaload, 1) := by decide +kernel
theorem dX6_cells_12 : decode cX6_cells 12 = .ok (.imul, 1) := by decide +kernel
theorem dX6_cells_13 : decode cX6_cells 13 = .ok (.ireturn, 1) := by decide +kernel
theorem dX6_isCell_0 : decode cX6_isCell 0 = .ok (.iload_n 1, 1) := by decide +kernel
theorem dX6_isCell_1 : decode cX6_isCell 1 = .ok (.i2l, 1) := by decide +kernel
theorem dX6_isCell_2 : decode cX6_isCell 2 = .ok (.lconst 0, 1) := by decide +kernel
theorem dX6_isCell_3 : decode cX6_isCell 3 = .ok (.aload_n 0, 1) := by decide +kernel
theorem dX6_isCell_4 : decode cX6_isCell 4 = .ok (.invokevirtual 46, 3) := by decide +kernel
theorem dX6_isCell_7 : decode cX6_isCell 7 = .ok (.iconst 1, 1) := by decide +kernel
theorem dX6_isCell_8 : decode cX6_isCell 8 = .ok (.isub, 1) := by decide +kernel
theorem dX6_isCell_9 : decode cX6_isCell 9 = .ok (.i2l, 1) := by decide +kernel
theorem dX6_isCell_10 : decode cX6_isCell 10 = .ok (.invokestatic 50, 3) := by decide +kernel
theorem dX6_isCell_13 : decode cX6_isCell 13 = .ok (.ireturn, 1) := by decide +kernel
theorem dX6_isTruck_0 : decode cX6_isTruck 0 = .ok (.iload_n 1, 1) := by decide +kernel
theorem dX6_isTruck_1 : decode cX6_isTruck 1 = .ok (.i2l, 1) := by decide +kernel
theorem dX6_isTruck_2 : decode cX6_isTruck 2 = .ok (.lconst 0, 1) := by decide +kernel
theorem dX6_isTruck_3 : decode cX6_isTruck 3 = .ok (.aload_n 0, 1) := by decide +kernel
theorem dX6_isTruck_4 : decode cX6_isTruck 4 = .ok (.getfield 7, 3) := by decide +kernel
theorem dX6_isTruck_7 : decode cX6_isTruck 7 = .ok (.iconst 3, 1) := by decide +kernel
theorem dX6_isTruck_8 : decode cX6_isTruck 8 = .ok (.iaload, 1) := by decide +kernel
theorem dX6_isTruck_9 : decode cX6_isTruck 9 = .ok (.iconst 1, 1) := by decide +kernel
theorem dX6_isTruck_10 : decode cX6_isTruck 10 = .ok (.isub, 1) := by decide +kernel
theorem dX6_isTruck_11 : decode cX6_isTruck 11 = .ok (.i2l, 1) := by decide +kernel
theorem dX6_isTruck_12 : decode cX6_isTruck 12 = .ok (.invokestatic 50, 3) := by decide +kernel
theorem dX6_isTruck_15 : decode cX6_isTruck 15 = .ok (.ireturn, 1) := by decide +kernel
theorem dX6_isPoured_0 : decode cX6_isPoured 0 = .ok (.aload_n 0, 1) := by decide +kernel
theorem dX6_isPoured_1 : decode cX6_isPoured 1 = .ok (.getfield 7, 3) := by decide +kernel
theorem dX6_isPoured_4 : decode cX6_isPoured 4 = .ok (.iload_n 1, 1) := by decide +kernel
theorem dX6_isPoured_5 : decode cX6_isPoured 5 = .ok (.bipush 43, 2) := by decide +kernel
theorem dX6_isPoured_7 : decode cX6_isPoured 7 = .ok (.iadd, 1) := by decide +kernel
theorem dX6_isPoured_8 : decode cX6_isPoured 8 = .ok (.iload_n 2, 1) := by decide +kernel
theorem dX6_isPoured_9 : decode cX6_isPoured 9 = .ok (.iadd, 1) := by decide +kernel
theorem dX6_isPoured_10 : decode cX6_isPoured 10 = .ok (.iaload, 1) := by decide +kernel
theorem dX6_isPoured_11 : decode cX6_isPoured 11 = .ok (.iconst (-1), 1) := by decide +kernel
theorem dX6_isPoured_12 : decode cX6_isPoured 12 = .ok (.if_icmp .eq 7, 3) := by decide +kernel
theorem dX6_isPoured_15 : decode cX6_isPoured 15 = .ok (.iconst 1, 1) := by decide +kernel
theorem dX6_isPoured_16 : decode cX6_isPoured 16 = .ok (.goto 4, 3) := by decide +kernel
theorem dX6_isPoured_19 : decode cX6_isPoured 19 = .ok (.iconst 0, 1) := by decide +kernel
theorem dX6_isPoured_20 : decode cX6_isPoured 20 = .ok (.ireturn, 1) := by decide +kernel
theorem dX6_used_0 : decode cX6_used 0 = .ok (.iconst 0, 1) := by decide +kernel
theorem dX6_used_1 : decode cX6_used 1 = .ok (.istore_n 2, 1) := by decide +kernel
theorem dX6_used_2 : decode cX6_used 2 = .ok (.iconst 0, 1) := by decide +kernel
theorem dX6_used_3 : decode cX6_used 3 = .ok (.istore_n 3, 1) := by decide +kernel
theorem dX6_used_4 : decode cX6_used 4 = .ok (.iload_n 3, 1) := by decide +kernel
theorem dX6_used_5 : decode cX6_used 5 = .ok (.bipush 9, 2) := by decide +kernel
theorem dX6_used_7 : decode cX6_used 7 = .ok (.if_icmp .ge 36, 3) := by decide +kernel
theorem dX6_used_10 : decode cX6_used 10 = .ok (.iload_n 2, 1) := by decide +kernel
theorem dX6_used_11 : decode cX6_used 11 = .ok (.aload_n 0, 1) := by decide +kernel
theorem dX6_used_12 : decode cX6_used 12 = .ok (.iload_n 1, 1) := by decide +kernel
theorem dX6_used_13 : decode cX6_used 13 = .ok (.iload_n 3, 1) := by decide +kernel
theorem dX6_used_14 : decode cX6_used 14 = .ok (.invokevirtual 54, 3) := by decide +kernel
theorem dX6_used_17 : decode cX6_used 17 = .ok (.ifCond .eq 17, 3) := by decide +kernel
theorem dX6_used_20 : decode cX6_used 20 = .ok (.aload_n 0, 1) := by decide +kernel
theorem dX6_used_21 : decode cX6_used 21 = .ok (.getfield 7, 3) := by decide +kernel
theorem dX6_used_24 : decode cX6_used 24 = .ok (.iload_n 1, 1) := by decide +kernel
theorem dX6_used_25 : decode cX6_used 25 = .ok (.bipush 25, 2) := by decide +kernel
theorem dX6_used_27 : decode cX6_used 27 = .ok (.iadd, 1) := by decide +kernel
theorem dX6_used_28 : decode cX6_used 28 = .ok (.iload_n 3, 1) := by decide +kernel
theorem dX6_used_29 : decode cX6_used 29 = .ok (.iadd, 1) := by decide +kernel
theorem dX6_used_30 : decode cX6_used 30 = .ok (.iaload, 1) := by decide +kernel
theorem dX6_used_31 : decode cX6_used 31 = .ok (.goto 4, 3) := by decide +kernel
theorem dX6_used_34 : decode cX6_used 34 = .ok (.iconst 0, 1) := by decide +kernel
theorem dX6_used_35 : decode cX6_used 35 = .ok (.iadd, 1) := by decide +kernel
theorem dX6_used_36 : decode cX6_used 36 = .ok (.istore_n 2, 1) := by decide +kernel
theorem dX6_used_37 : decode cX6_used 37 = .ok (.iinc 3 1, 3) := by decide +kernel
theorem dX6_used_40 : decode cX6_used 40 = .ok (.goto (-36), 3) := by decide +kernel
theorem dX6_used_43 : decode cX6_used 43 = .ok (.iload_n 2, 1) := by decide +kernel
theorem dX6_used_44 : decode cX6_used 44 = .ok (.ireturn, 1) := by decide +kernel
theorem dX6_brought_0 : decode cX6_brought 0 = .ok (.iconst 0, 1) := by decide +kernel
theorem dX6_brought_1 : decode cX6_brought 1 = .ok (.istore_n 3, 1) := by decide +kernel
theorem dX6_brought_2 : decode cX6_brought 2 = .ok (.iconst 0, 1) := by decide +kernel
theorem dX6_brought_3 : decode cX6_brought 3 = .ok (.istore 4, 2) := by decide +kernel
theorem dX6_brought_5 : decode cX6_brought 5 = .ok (.iload 4, 2) := by decide +kernel
theorem dX6_brought_7 : decode cX6_brought 7 = .ok (.aload_n 0, 1) := by decide +kernel
theorem dX6_brought_8 : decode cX6_brought 8 = .ok (.getfield 7, 3) := by decide +kernel
theorem dX6_brought_11 : decode cX6_brought 11 = .ok (.iload_n 1, 1) := by decide +kernel
theorem dX6_brought_12 : decode cX6_brought 12 = .ok (.iconst 3, 1) := by decide +kernel
theorem dX6_brought_13 : decode cX6_brought 13 = .ok (.iadd, 1) := by decide +kernel
theorem dX6_brought_14 : decode cX6_brought 14 = .ok (.iaload, 1) := by decide +kernel
theorem dX6_brought_15 : decode cX6_brought 15 = .ok (.if_icmp .ge 44, 3) := by decide +kernel
theorem dX6_brought_18 : decode cX6_brought 18 = .ok (.iload_n 3, 1) := by decide +kernel
theorem dX6_brought_19 : decode cX6_brought 19 = .ok (.aload_n 0, 1) := by decide +kernel
theorem dX6_brought_20 : decode cX6_brought 20 = .ok (.getfield 7, 3) := by decide +kernel
theorem dX6_brought_23 : decode cX6_brought 23 = .ok (.iload_n 1, 1) := by decide +kernel
theorem dX6_brought_24 : decode cX6_brought 24 = .ok (.bipush 7, 2) := by decide +kernel
theorem dX6_brought_26 : decode cX6_brought 26 = .ok (.iadd, 1) := by decide +kernel
theorem dX6_brought_27 : decode cX6_brought 27 = .ok (.iload 4, 2) := by decide +kernel
theorem dX6_brought_29 : decode cX6_brought 29 = .ok (.iadd, 1) := by decide +kernel
theorem dX6_brought_30 : decode cX6_brought 30 = .ok (.iaload, 1) := by decide +kernel
theorem dX6_brought_31 : decode cX6_brought 31 = .ok (.iload_n 2, 1) := by decide +kernel
theorem dX6_brought_32 : decode cX6_brought 32 = .ok (.if_icmp .gt 18, 3) := by decide +kernel
theorem dX6_brought_35 : decode cX6_brought 35 = .ok (.aload_n 0, 1) := by decide +kernel
theorem dX6_brought_36 : decode cX6_brought 36 = .ok (.getfield 7, 3) := by decide +kernel
theorem dX6_brought_39 : decode cX6_brought 39 = .ok (.iload_n 1, 1) := by decide +kernel
theorem dX6_brought_40 : decode cX6_brought 40 = .ok (.bipush 16, 2) := by decide +kernel
theorem dX6_brought_42 : decode cX6_brought 42 = .ok (.iadd, 1) := by decide +kernel
theorem dX6_brought_43 : decode cX6_brought 43 = .ok (.iload 4, 2) := by decide +kernel
theorem dX6_brought_45 : decode cX6_brought 45 = .ok (.iadd, 1) := by decide +kernel
theorem dX6_brought_46 : decode cX6_brought 46 = .ok (.iaload, 1) := by decide +kernel
theorem dX6_brought_47 : decode cX6_brought 47 = .ok (.goto 4, 3) := by decide +kernel
theorem dX6_brought_50 : decode cX6_brought 50 = .ok (.iconst 0, 1) := by decide +kernel
theorem dX6_brought_51 : decode cX6_brought 51 = .ok (.iadd, 1) := by decide +kernel
theorem dX6_brought_52 : decode cX6_brought 52 = .ok (.istore_n 3, 1) := by decide +kernel
theorem dX6_brought_53 : decode cX6_brought 53 = .ok (.iinc 4 1, 3) := by decide +kernel
theorem dX6_brought_56 : decode cX6_brought 56 = .ok (.goto (-51), 3) := by decide +kernel
theorem dX6_brought_59 : decode cX6_brought 59 = .ok (.iload_n 3, 1) := by decide +kernel
theorem dX6_brought_60 : decode cX6_brought 60 = .ok (.ireturn, 1) := by decide +kernel
theorem dX6_beginOf_0 : decode cX6_beginOf 0 = .ok (.aload_n 0, 1) := by decide +kernel
theorem dX6_beginOf_1 : decode cX6_beginOf 1 = .ok (.iload_n 1, 1) := by decide +kernel
theorem dX6_beginOf_2 : decode cX6_beginOf 2 = .ok (.iload_n 2, 1) := by decide +kernel
theorem dX6_beginOf_3 : decode cX6_beginOf 3 = .ok (.invokevirtual 54, 3) := by decide +kernel
theorem dX6_beginOf_6 : decode cX6_beginOf 6 = .ok (.ifCond .ne 37, 3) := by decide +kernel
theorem dX6_beginOf_9 : decode cX6_beginOf 9 = .ok (.iload_n 2, 1) := by decide +kernel
theorem dX6_beginOf_10 : decode cX6_beginOf 10 = .ok (.aload_n 0, 1) := by decide +kernel
theorem dX6_beginOf_11 : decode cX6_beginOf 11 = .ok (.getfield 7, 3) := by decide +kernel
theorem dX6_beginOf_14 : decode cX6_beginOf 14 = .ok (.iload_n 1, 1) := by decide +kernel
theorem dX6_beginOf_15 : decode cX6_beginOf 15 = .ok (.iconst 0, 1) := by decide +kernel
theorem dX6_beginOf_16 : decode cX6_beginOf 16 = .ok (.iadd, 1) := by decide +kernel
theorem dX6_beginOf_17 : decode cX6_beginOf 17 = .ok (.iaload, 1) := by decide +kernel
theorem dX6_beginOf_18 : decode cX6_beginOf 18 = .ok (.if_icmp .lt 21, 3) := by decide +kernel
theorem dX6_beginOf_21 : decode cX6_beginOf 21 = .ok (.aload_n 0, 1) := by decide +kernel
theorem dX6_beginOf_22 : decode cX6_beginOf 22 = .ok (.iload_n 1, 1) := by decide +kernel
theorem dX6_beginOf_23 : decode cX6_beginOf 23 = .ok (.iload_n 2, 1) := by decide +kernel
theorem dX6_beginOf_24 : decode cX6_beginOf 24 = .ok (.aload_n 0, 1) := by decide +kernel
theorem dX6_beginOf_25 : decode cX6_beginOf 25 = .ok (.getfield 7, 3) := by decide +kernel
theorem dX6_beginOf_28 : decode cX6_beginOf 28 = .ok (.iload_n 1, 1) := by decide +kernel
theorem dX6_beginOf_29 : decode cX6_beginOf 29 = .ok (.iconst 0, 1) := by decide +kernel
theorem dX6_beginOf_30 : decode cX6_beginOf 30 = .ok (.iadd, 1) := by decide +kernel
theorem dX6_beginOf_31 : decode cX6_beginOf 31 = .ok (.iaload, 1) := by decide +kernel
theorem dX6_beginOf_32 : decode cX6_beginOf 32 = .ok (.isub, 1) := by decide +kernel
theorem dX6_beginOf_33 : decode cX6_beginOf 33 = .ok (.invokevirtual 54, 3) := by decide +kernel
theorem dX6_beginOf_36 : decode cX6_beginOf 36 = .ok (.ifCond .eq 7, 3) := by decide +kernel
theorem dX6_beginOf_39 : decode cX6_beginOf 39 = .ok (.iconst 1, 1) := by decide +kernel
theorem dX6_beginOf_40 : decode cX6_beginOf 40 = .ok (.goto 4, 3) := by decide +kernel
theorem dX6_beginOf_43 : decode cX6_beginOf 43 = .ok (.iconst 0, 1) := by decide +kernel
theorem dX6_beginOf_44 : decode cX6_beginOf 44 = .ok (.istore_n 3, 1) := by decide +kernel
theorem dX6_beginOf_45 : decode cX6_beginOf 45 = .ok (.iload_n 3, 1) := by decide +kernel
theorem dX6_beginOf_46 : decode cX6_beginOf 46 = .ok (.ifCond .ne 5, 3) := by decide +kernel
theorem dX6_beginOf_49 : decode cX6_beginOf 49 = .ok (.iconst (-1), 1) := by decide +kernel
theorem dX6_beginOf_50 : decode cX6_beginOf 50 = .ok (.ireturn, 1) := by decide +kernel
theorem dX6_beginOf_51 : decode cX6_beginOf 51 = .ok (.aload_n 0, 1) := by decide +kernel
theorem dX6_beginOf_52 : decode cX6_beginOf 52 = .ok (.iload_n 1, 1) := by decide +kernel
theorem dX6_beginOf_53 : decode cX6_beginOf 53 = .ok (.invokevirtual 58, 3) := by decide +kernel
theorem dX6_beginOf_56 : decode cX6_beginOf 56 = .ok (.aload_n 0, 1) := by decide +kernel
theorem dX6_beginOf_57 : decode cX6_beginOf 57 = .ok (.getfield 7, 3) := by decide +kernel
theorem dX6_beginOf_60 : decode cX6_beginOf 60 = .ok (.iload_n 1, 1) := by decide +kernel
theorem dX6_beginOf_61 : decode cX6_beginOf 61 = .ok (.bipush 25, 2) := by decide +kernel
theorem dX6_beginOf_63 : decode cX6_beginOf 63 = .ok (.iadd, 1) := by decide +kernel
theorem dX6_beginOf_64 : decode cX6_beginOf 64 = .ok (.iload_n 2, 1) := by decide +kernel
theorem dX6_beginOf_65 : decode cX6_beginOf 65 = .ok (.iadd, 1) := by decide +kernel
theorem dX6_beginOf_66 : decode cX6_beginOf 66 = .ok (.iaload, 1) := by decide +kernel
theorem dX6_beginOf_67 : decode cX6_beginOf 67 = .ok (.iadd, 1) := by decide +kernel
theorem dX6_beginOf_68 : decode cX6_beginOf 68 = .ok (.istore 4, 2) := by decide +kernel
theorem dX6_beginOf_70 : decode cX6_beginOf 70 = .ok (.aload_n 0, 1) := by decide +kernel
theorem dX6_beginOf_71 : decode cX6_beginOf 71 = .ok (.iload_n 1, 1) := by decide +kernel
theorem dX6_beginOf_72 : decode cX6_beginOf 72 = .ok (.aload_n 0, 1) := by decide +kernel
theorem dX6_beginOf_73 : decode cX6_beginOf 73 = .ok (.getfield 7, 3) := by decide +kernel
theorem dX6_beginOf_76 : decode cX6_beginOf 76 = .ok (.iload_n 1, 1) := by decide +kernel
theorem dX6_beginOf_77 : decode cX6_beginOf 77 = .ok (.iconst 2, 1) := by decide +kernel
theorem dX6_beginOf_78 : decode cX6_beginOf 78 = .ok (.iadd, 1) := by decide +kernel
theorem dX6_beginOf_79 : decode cX6_beginOf 79 = .ok (.iaload, 1) := by decide +kernel
theorem dX6_beginOf_80 : decode cX6_beginOf 80 = .ok (.invokevirtual 62, 3) := by decide +kernel
theorem dX6_beginOf_83 : decode cX6_beginOf 83 = .ok (.iload 4, 2) := by decide +kernel
theorem dX6_beginOf_85 : decode cX6_beginOf 85 = .ok (.if_icmp .lt 14, 3) := by decide +kernel
theorem dX6_beginOf_88 : decode cX6_beginOf 88 = .ok (.aload_n 0, 1) := by decide +kernel
theorem dX6_beginOf_89 : decode cX6_beginOf 89 = .ok (.getfield 7, 3) := by decide +kernel
theorem dX6_beginOf_92 : decode cX6_beginOf 92 = .ok (.iload_n 1, 1) := by decide +kernel
theorem dX6_beginOf_93 : decode cX6_beginOf 93 = .ok (.iconst 2, 1) := by decide +kernel
theorem dX6_beginOf_94 : decode cX6_beginOf 94 = .ok (.iadd, 1) := by decide +kernel
theorem dX6_beginOf_95 : decode cX6_beginOf 95 = .ok (.iaload, 1) := by decide +kernel
theorem dX6_beginOf_96 : decode cX6_beginOf 96 = .ok (.goto 5, 3) := by decide +kernel
theorem dX6_beginOf_99 : decode cX6_beginOf 99 = .ok (.ldc 66, 2) := by decide +kernel
theorem dX6_beginOf_101 : decode cX6_beginOf 101 = .ok (.istore 5, 2) := by decide +kernel
theorem dX6_beginOf_103 : decode cX6_beginOf 103 = .ok (.iconst 0, 1) := by decide +kernel
theorem dX6_beginOf_104 : decode cX6_beginOf 104 = .ok (.istore 6, 2) := by decide +kernel
theorem dX6_beginOf_106 : decode cX6_beginOf 106 = .ok (.iload 6, 2) := by decide +kernel
theorem dX6_beginOf_108 : decode cX6_beginOf 108 = .ok (.aload_n 0, 1) := by decide +kernel
theorem dX6_beginOf_109 : decode cX6_beginOf 109 = .ok (.getfield 7, 3) := by decide +kernel
theorem dX6_beginOf_112 : decode cX6_beginOf 112 = .ok (.iload_n 1, 1) := by decide +kernel
theorem dX6_beginOf_113 : decode cX6_beginOf 113 = .ok (.iconst 3, 1) := by decide +kernel
theorem dX6_beginOf_114 : decode cX6_beginOf 114 = .ok (.iadd, 1) := by decide +kernel
theorem dX6_beginOf_115 : decode cX6_beginOf 115 = .ok (.iaload, 1) := by decide +kernel
theorem dX6_beginOf_116 : decode cX6_beginOf 116 = .ok (.if_icmp .ge 77, 3) := by decide +kernel
theorem dX6_beginOf_119 : decode cX6_beginOf 119 = .ok (.iload 5, 2) := by decide +kernel
theorem dX6_beginOf_121 : decode cX6_beginOf 121 = .ok (.aload_n 0, 1) := by decide +kernel
theorem dX6_beginOf_122 : decode cX6_beginOf 122 = .ok (.getfield 7, 3) := by decide +kernel
theorem dX6_beginOf_125 : decode cX6_beginOf 125 = .ok (.iload_n 1, 1) := by decide +kernel
theorem dX6_beginOf_126 : decode cX6_beginOf 126 = .ok (.iconst 2, 1) := by decide +kernel
theorem dX6_beginOf_127 : decode cX6_beginOf 127 = .ok (.iadd, 1) := by decide +kernel
theorem dX6_beginOf_128 : decode cX6_beginOf 128 = .ok (.iaload, 1) := by decide +kernel
theorem dX6_beginOf_129 : decode cX6_beginOf 129 = .ok (.if_icmp .le 64, 3) := by decide +kernel
theorem dX6_beginOf_132 : decode cX6_beginOf 132 = .ok (.aload_n 0, 1) := by decide +kernel
theorem dX6_beginOf_133 : decode cX6_beginOf 133 = .ok (.getfield 7, 3) := by decide +kernel
theorem dX6_beginOf_136 : decode cX6_beginOf 136 = .ok (.iload_n 1, 1) := by decide +kernel
theorem dX6_beginOf_137 : decode cX6_beginOf 137 = .ok (.bipush 7, 2) := by decide +kernel
theorem dX6_beginOf_139 : decode cX6_beginOf 139 = .ok (.iadd, 1) := by decide +kernel
theorem dX6_beginOf_140 : decode cX6_beginOf 140 = .ok (.iload 6, 2) := by decide +kernel
theorem dX6_beginOf_142 : decode cX6_beginOf 142 = .ok (.iadd, 1) := by decide +kernel
theorem dX6_beginOf_143 : decode cX6_beginOf 143 = .ok (.iaload, 1) := by decide +kernel
theorem dX6_beginOf_144 : decode cX6_beginOf 144 = .ok (.istore 7, 2) := by decide +kernel
theorem dX6_beginOf_146 : decode cX6_beginOf 146 = .ok (.iload 7, 2) := by decide +kernel
theorem dX6_beginOf_148 : decode cX6_beginOf 148 = .ok (.aload_n 0, 1) := by decide +kernel
theorem dX6_beginOf_149 : decode cX6_beginOf 149 = .ok (.getfield 7, 3) := by decide +kernel
theorem dX6_beginOf_152 : decode cX6_beginOf 152 = .ok (.iload_n 1, 1) := by decide +kernel
theorem dX6_beginOf_153 : decode cX6_beginOf 153 = .ok (.iconst 2, 1) := by decide +kernel
theorem dX6_beginOf_154 : decode cX6_beginOf 154 = .ok (.iadd, 1) := by decide +kernel
theorem dX6_beginOf_155 : decode cX6_beginOf 155 = .ok (.iaload, 1) := by decide +kernel
theorem dX6_beginOf_156 : decode cX6_beginOf 156 = .ok (.if_icmp .le 27, 3) := by decide +kernel
theorem dX6_beginOf_159 : decode cX6_beginOf 159 = .ok (.iload 7, 2) := by decide +kernel
theorem dX6_beginOf_161 : decode cX6_beginOf 161 = .ok (.iload 5, 2) := by decide +kernel
theorem dX6_beginOf_163 : decode cX6_beginOf 163 = .ok (.if_icmp .ge 20, 3) := by decide +kernel
theorem dX6_beginOf_166 : decode cX6_beginOf 166 = .ok (.aload_n 0, 1) := by decide +kernel
theorem dX6_beginOf_167 : decode cX6_beginOf 167 = .ok (.iload_n 1, 1) := by decide +kernel
theorem dX6_beginOf_168 : decode cX6_beginOf 168 = .ok (.iload 7, 2) := by decide +kernel
theorem dX6_beginOf_170 : decode cX6_beginOf 170 = .ok (.invokevirtual 62, 3) := by decide +kernel
theorem dX6_beginOf_173 : decode cX6_beginOf 173 = .ok (.iload 4, 2) := by decide +kernel
theorem dX6_beginOf_175 : decode cX6_beginOf 175 = .ok (.if_icmp .lt 8, 3) := by decide +kernel
theorem dX6_beginOf_178 : decode cX6_beginOf 178 = .ok (.iload 7, 2) := by decide +kernel
theorem dX6_beginOf_180 : decode cX6_beginOf 180 = .ok (.goto 5, 3) := by decide +kernel
theorem dX6_beginOf_183 : decode cX6_beginOf 183 = .ok (.iload 5, 2) := by decide +kernel
theorem dX6_beginOf_185 : decode cX6_beginOf 185 = .ok (.istore 5, 2) := by decide +kernel
theorem dX6_beginOf_187 : decode cX6_beginOf 187 = .ok (.iinc 6 1, 3) := by decide +kernel
theorem dX6_beginOf_190 : decode cX6_beginOf 190 = .ok (.goto (-84), 3) := by decide +kernel
theorem dX6_beginOf_193 : decode cX6_beginOf 193 = .ok (.iload 5, 2) := by decide +kernel
theorem dX6_beginOf_195 : decode cX6_beginOf 195 = .ok (.ldc 66, 2) := by decide +kernel
theorem dX6_beginOf_197 : decode cX6_beginOf 197 = .ok (.if_icmp .ne 7, 3) := by decide +kernel
theorem dX6_beginOf_200 : decode cX6_beginOf 200 = .ok (.iconst (-1), 1) := by decide +kernel
theorem dX6_beginOf_201 : decode cX6_beginOf 201 = .ok (.goto 5, 3) := by decide +kernel
theorem dX6_beginOf_204 : decode cX6_beginOf 204 = .ok (.iload 5, 2) := by decide +kernel
theorem dX6_beginOf_206 : decode cX6_beginOf 206 = .ok (.ireturn, 1) := by decide +kernel
theorem dX6_pours_0 : decode cX6_pours 0 = .ok (.aload_n 0, 1) := by decide +kernel
theorem dX6_pours_1 : decode cX6_pours 1 = .ok (.iload_n 1, 1) := by decide +kernel
theorem dX6_pours_2 : decode cX6_pours 2 = .ok (.iload_n 2, 1) := by decide +kernel
theorem dX6_pours_3 : decode cX6_pours 3 = .ok (.invokevirtual 67, 3) := by decide +kernel
theorem dX6_pours_6 : decode cX6_pours 6 = .ok (.istore_n 3, 1) := by decide +kernel
theorem dX6_pours_7 : decode cX6_pours 7 = .ok (.iload_n 3, 1) := by decide +kernel
theorem dX6_pours_8 : decode cX6_pours 8 = .ok (.iconst (-1), 1) := by decide +kernel
theorem dX6_pours_9 : decode cX6_pours 9 = .ok (.if_icmp .ne 5, 3) := by decide +kernel
theorem dX6_pours_12 : decode cX6_pours 12 = .ok (.iconst 0, 1) := by decide +kernel
theorem dX6_pours_13 : decode cX6_pours 13 = .ok (.ireturn, 1) := by decide +kernel
theorem dX6_pours_14 : decode cX6_pours 14 = .ok (.aload_n 0, 1) := by decide +kernel
theorem dX6_pours_15 : decode cX6_pours 15 = .ok (.getfield 7, 3) := by decide +kernel
theorem dX6_pours_18 : decode cX6_pours 18 = .ok (.iload_n 1, 1) := by decide +kernel
theorem dX6_pours_19 : decode cX6_pours 19 = .ok (.bipush 34, 2) := by decide +kernel
theorem dX6_pours_21 : decode cX6_pours 21 = .ok (.iadd, 1) := by decide +kernel
theorem dX6_pours_22 : decode cX6_pours 22 = .ok (.iload_n 2, 1) := by decide +kernel
theorem dX6_pours_23 : decode cX6_pours 23 = .ok (.iadd, 1) := by decide +kernel
theorem dX6_pours_24 : decode cX6_pours 24 = .ok (.iload_n 3, 1) := by decide +kernel
theorem dX6_pours_25 : decode cX6_pours 25 = .ok (.iastore, 1) := by decide +kernel
theorem dX6_pours_26 : decode cX6_pours 26 = .ok (.aload_n 0, 1) := by decide +kernel
theorem dX6_pours_27 : decode cX6_pours 27 = .ok (.getfield 7, 3) := by decide +kernel
theorem dX6_pours_30 : decode cX6_pours 30 = .ok (.iload_n 1, 1) := by decide +kernel
theorem dX6_pours_31 : decode cX6_pours 31 = .ok (.bipush 43, 2) := by decide +kernel
theorem dX6_pours_33 : decode cX6_pours 33 = .ok (.iadd, 1) := by decide +kernel
theorem dX6_pours_34 : decode cX6_pours 34 = .ok (.iload_n 2, 1) := by decide +kernel
theorem dX6_pours_35 : decode cX6_pours 35 = .ok (.iadd, 1) := by decide +kernel
theorem dX6_pours_36 : decode cX6_pours 36 = .ok (.iload_n 3, 1) := by decide +kernel
theorem dX6_pours_37 : decode cX6_pours 37 = .ok (.aload_n 0, 1) := by decide +kernel
theorem dX6_pours_38 : decode cX6_pours 38 = .ok (.getfield 7, 3) := by decide +kernel
theorem dX6_pours_41 : decode cX6_pours 41 = .ok (.iload_n 1, 1) := by decide +kernel
theorem dX6_pours_42 : decode cX6_pours 42 = .ok (.bipush 25, 2) := by decide +kernel
theorem dX6_pours_44 : decode cX6_pours 44 = .ok (.iadd, 1) := by decide +kernel
theorem dX6_pours_45 : decode cX6_pours 45 = .ok (.iload_n 2, 1) := by decide +kernel
theorem dX6_pours_46 : decode cX6_pours 46 = .ok (.iadd, 1) := by decide +kernel
theorem dX6_pours_47 : decode cX6_pours 47 = .ok (.iaload, 1) := by decide +kernel
theorem dX6_pours_48 : decode cX6_pours 48 = .ok (.iadd, 1) := by decide +kernel
theorem dX6_pours_49 : decode cX6_pours 49 = .ok (.iastore, 1) := by decide +kernel
theorem dX6_pours_50 : decode cX6_pours 50 = .ok (.aload_n 0, 1) := by decide +kernel
theorem dX6_pours_51 : decode cX6_pours 51 = .ok (.getfield 7, 3) := by decide +kernel
theorem dX6_pours_54 : decode cX6_pours 54 = .ok (.iload_n 1, 1) := by decide +kernel
theorem dX6_pours_55 : decode cX6_pours 55 = .ok (.iconst 2, 1) := by decide +kernel
theorem dX6_pours_56 : decode cX6_pours 56 = .ok (.iadd, 1) := by decide +kernel
theorem dX6_pours_57 : decode cX6_pours 57 = .ok (.aload_n 0, 1) := by decide +kernel
theorem dX6_pours_58 : decode cX6_pours 58 = .ok (.getfield 7, 3) := by decide +kernel
theorem dX6_pours_61 : decode cX6_pours 61 = .ok (.iload_n 1, 1) := by decide +kernel
theorem dX6_pours_62 : decode cX6_pours 62 = .ok (.bipush 43, 2) := by decide +kernel
theorem dX6_pours_64 : decode cX6_pours 64 = .ok (.iadd, 1) := by decide +kernel
theorem dX6_pours_65 : decode cX6_pours 65 = .ok (.iload_n 2, 1) := by decide +kernel
theorem dX6_pours_66 : decode cX6_pours 66 = .ok (.iadd, 1) := by decide +kernel
theorem dX6_pours_67 : decode cX6_pours 67 = .ok (.iaload, 1) := by decide +kernel
theorem dX6_pours_68 : decode cX6_pours 68 = .ok (.iastore, 1) := by decide +kernel
theorem dX6_pours_69 : decode cX6_pours 69 = .ok (.iconst 1, 1) := by decide +kernel
theorem dX6_pours_70 : decode cX6_pours 70 = .ok (.ireturn, 1) := by decide +kernel
theorem dX6_poured_0 : decode cX6_poured 0 = .ok (.iconst 0, 1) := by decide +kernel
theorem dX6_poured_1 : decode cX6_poured 1 = .ok (.istore_n 1, 1) := by decide +kernel
theorem dX6_poured_2 : decode cX6_poured 2 = .ok (.iconst 0, 1) := by decide +kernel
theorem dX6_poured_3 : decode cX6_poured 3 = .ok (.istore_n 2, 1) := by decide +kernel
theorem dX6_poured_4 : decode cX6_poured 4 = .ok (.iload_n 2, 1) := by decide +kernel
theorem dX6_poured_5 : decode cX6_poured 5 = .ok (.aload_n 0, 1) := by decide +kernel
theorem dX6_poured_6 : decode cX6_poured 6 = .ok (.invokevirtual 46, 3) := by decide +kernel
theorem dX6_poured_9 : decode cX6_poured 9 = .ok (.if_icmp .ge 28, 3) := by decide +kernel
theorem dX6_poured_12 : decode cX6_poured 12 = .ok (.iload_n 1, 1) := by decide +kernel
theorem dX6_poured_13 : decode cX6_poured 13 = .ok (.aload_n 0, 1) := by decide +kernel
theorem dX6_poured_14 : decode cX6_poured 14 = .ok (.iconst 0, 1) := by decide +kernel
theorem dX6_poured_15 : decode cX6_poured 15 = .ok (.iload_n 2, 1) := by decide +kernel
theorem dX6_poured_16 : decode cX6_poured 16 = .ok (.invokevirtual 54, 3) := by decide +kernel
theorem dX6_poured_19 : decode cX6_poured 19 = .ok (.ifCond .eq 9, 3) := by decide +kernel
theorem dX6_poured_22 : decode cX6_poured 22 = .ok (.iconst 1, 1) := by decide +kernel
theorem dX6_poured_23 : decode cX6_poured 23 = .ok (.iload_n 2, 1) := by decide +kernel
theorem dX6_poured_24 : decode cX6_poured 24 = .ok (.ishl, 1) := by decide +kernel
theorem dX6_poured_25 : decode cX6_poured 25 = .ok (.goto 4, 3) := by decide +kernel
theorem dX6_poured_28 : decode cX6_poured 28 = .ok (.iconst 0, 1) := by decide +kernel
theorem dX6_poured_29 : decode cX6_poured 29 = .ok (.ior, 1) := by decide +kernel
theorem dX6_poured_30 : decode cX6_poured 30 = .ok (.istore_n 1, 1) := by decide +kernel
theorem dX6_poured_31 : decode cX6_poured 31 = .ok (.iinc 2 1, 3) := by decide +kernel
theorem dX6_poured_34 : decode cX6_poured 34 = .ok (.goto (-30), 3) := by decide +kernel
theorem dX6_poured_37 : decode cX6_poured 37 = .ok (.iload_n 1, 1) := by decide +kernel
theorem dX6_poured_38 : decode cX6_poured 38 = .ok (.ireturn, 1) := by decide +kernel
theorem dX6_ones_0 : decode cX6_ones 0 = .ok (.iconst 0, 1) := by decide +kernel
theorem dX6_ones_1 : decode cX6_ones 1 = .ok (.istore_n 1, 1) := by decide +kernel
theorem dX6_ones_2 : decode cX6_ones 2 = .ok (.iconst 0, 1) := by decide +kernel
theorem dX6_ones_3 : decode cX6_ones 3 = .ok (.istore_n 2, 1) := by decide +kernel
theorem dX6_ones_4 : decode cX6_ones 4 = .ok (.iload_n 2, 1) := by decide +kernel
theorem dX6_ones_5 : decode cX6_ones 5 = .ok (.bipush 9, 2) := by decide +kernel
theorem dX6_ones_7 : decode cX6_ones 7 = .ok (.if_icmp .ge 17, 3) := by decide +kernel
theorem dX6_ones_10 : decode cX6_ones 10 = .ok (.iload_n 1, 1) := by decide +kernel
theorem dX6_ones_11 : decode cX6_ones 11 = .ok (.iload_n 0, 1) := by decide +kernel
theorem dX6_ones_12 : decode cX6_ones 12 = .ok (.iload_n 2, 1) := by decide +kernel
theorem dX6_ones_13 : decode cX6_ones 13 = .ok (.ishr, 1) := by decide +kernel
theorem dX6_ones_14 : decode cX6_ones 14 = .ok (.iconst 1, 1) := by decide +kernel
theorem dX6_ones_15 : decode cX6_ones 15 = .ok (.iand, 1) := by decide +kernel
theorem dX6_ones_16 : decode cX6_ones 16 = .ok (.iadd, 1) := by decide +kernel
theorem dX6_ones_17 : decode cX6_ones 17 = .ok (.istore_n 1, 1) := by decide +kernel
theorem dX6_ones_18 : decode cX6_ones 18 = .ok (.iinc 2 1, 3) := by decide +kernel
theorem dX6_ones_21 : decode cX6_ones 21 = .ok (.goto (-17), 3) := by decide +kernel
theorem dX6_ones_24 : decode cX6_ones 24 = .ok (.iload_n 1, 1) := by decide +kernel
theorem dX6_ones_25 : decode cX6_ones 25 = .ok (.ireturn, 1) := by decide +kernel
theorem dX6_beyond_0 : decode cX6_beyond 0 = .ok (.aload_n 0, 1) := by decide +kernel
theorem dX6_beyond_1 : decode cX6_beyond 1 = .ok (.getfield 7, 3) := by decide +kernel
theorem dX6_beyond_4 : decode cX6_beyond 4 = .ok (.iload_n 1, 1) := by decide +kernel
theorem dX6_beyond_5 : decode cX6_beyond 5 = .ok (.iconst 0, 1) := by decide +kernel
theorem dX6_beyond_6 : decode cX6_beyond 6 = .ok (.iadd, 1) := by decide +kernel
theorem dX6_beyond_7 : decode cX6_beyond 7 = .ok (.iaload, 1) := by decide +kernel
theorem dX6_beyond_8 : decode cX6_beyond 8 = .ok (.istore_n 3, 1) := by decide +kernel
theorem dX6_beyond_9 : decode cX6_beyond 9 = .ok (.iload_n 2, 1) := by decide +kernel
theorem dX6_beyond_10 : decode cX6_beyond 10 = .ok (.i2l, 1) := by decide +kernel
theorem dX6_beyond_11 : decode cX6_beyond 11 = .ok (.lconst 0, 1) := by decide +kernel
theorem dX6_beyond_12 : decode cX6_beyond 12 = .ok (.iconst 3, 1) := by decide +kernel
theorem dX6_beyond_13 : decode cX6_beyond 13 = .ok (.iload_n 3, 1) := by decide +kernel
theorem dX6_beyond_14 : decode cX6_beyond 14 = .ok (.imul, 1) := by decide +kernel
theorem dX6_beyond_15 : decode cX6_beyond 15 = .ok (.aload_n 0, 1) := by decide +kernel
theorem dX6_beyond_16 : decode cX6_beyond 16 = .ok (.getfield 7, 3) := by decide +kernel
theorem dX6_beyond_19 : decode cX6_beyond 19 = .ok (.iload_n 1, 1) := by decide +kernel
theorem dX6_beyond_20 : decode cX6_beyond 20 = .ok (.iconst 1, 1) := by decide +kernel
theorem dX6_beyond_21 : decode cX6_beyond 21 = .ok (.iadd, 1) := by decide +kernel
theorem dX6_beyond_22 : decode cX6_beyond 22 = .ok (.iaload, 1) := by decide +kernel
theorem dX6_beyond_23 : decode cX6_beyond 23 = .ok (.imul, 1) := by decide +kernel
theorem dX6_beyond_24 : decode cX6_beyond 24 = .ok (.iconst 1, 1) := by decide +kernel
theorem dX6_beyond_25 : decode cX6_beyond 25 = .ok (.isub, 1) := by decide +kernel
theorem dX6_beyond_26 : decode cX6_beyond 26 = .ok (.i2l, 1) := by decide +kernel
theorem dX6_beyond_27 : decode cX6_beyond 27 = .ok (.invokestatic 50, 3) := by decide +kernel
theorem dX6_beyond_30 : decode cX6_beyond 30 = .ok (.ifCond .ne 5, 3) := by decide +kernel
theorem dX6_beyond_33 : decode cX6_beyond 33 = .ok (.iconst (-1), 1) := by decide +kernel
theorem dX6_beyond_34 : decode cX6_beyond 34 = .ok (.ireturn, 1) := by decide +kernel
theorem dX6_beyond_35 : decode cX6_beyond 35 = .ok (.iload_n 2, 1) := by decide +kernel
theorem dX6_beyond_36 : decode cX6_beyond 36 = .ok (.iconst 3, 1) := by decide +kernel
theorem dX6_beyond_37 : decode cX6_beyond 37 = .ok (.idiv, 1) := by decide +kernel
theorem dX6_beyond_38 : decode cX6_beyond 38 = .ok (.istore 4, 2) := by decide +kernel
theorem dX6_beyond_40 : decode cX6_beyond 40 = .ok (.iload_n 2, 1) := by decide +kernel
theorem dX6_beyond_41 : decode cX6_beyond 41 = .ok (.iconst 3, 1) := by decide +kernel
theorem dX6_beyond_42 : decode cX6_beyond 42 = .ok (.irem, 1) := by decide +kernel
theorem dX6_beyond_43 : decode cX6_beyond 43 = .ok (.ifCond .ne 29, 3) := by decide +kernel
theorem dX6_beyond_46 : decode cX6_beyond 46 = .ok (.iload 4, 2) := by decide +kernel
theorem dX6_beyond_48 : decode cX6_beyond 48 = .ok (.iload_n 3, 1) := by decide +kernel
theorem dX6_beyond_49 : decode cX6_beyond 49 = .ok (.iadd, 1) := by decide +kernel
theorem dX6_beyond_50 : decode cX6_beyond 50 = .ok (.iload_n 3, 1) := by decide +kernel
theorem dX6_beyond_51 : decode cX6_beyond 51 = .ok (.aload_n 0, 1) := by decide +kernel
theorem dX6_beyond_52 : decode cX6_beyond 52 = .ok (.getfield 7, 3) := by decide +kernel
theorem dX6_beyond_55 : decode cX6_beyond 55 = .ok (.iload_n 1, 1) := by decide +kernel
theorem dX6_beyond_56 : decode cX6_beyond 56 = .ok (.iconst 1, 1) := by decide +kernel
theorem dX6_beyond_57 : decode cX6_beyond 57 = .ok (.iadd, 1) := by decide +kernel
theorem dX6_beyond_58 : decode cX6_beyond 58 = .ok (.iaload, 1) := by decide +kernel
theorem dX6_beyond_59 : decode cX6_beyond 59 = .ok (.imul, 1) := by decide +kernel
theorem dX6_beyond_60 : decode cX6_beyond 60 = .ok (.if_icmp .ge 10, 3) := by decide +kernel
theorem dX6_beyond_63 : decode cX6_beyond 63 = .ok (.iload 4, 2) := by decide +kernel
theorem dX6_beyond_65 : decode cX6_beyond 65 = .ok (.iload_n 3, 1) := by decide +kernel
theorem dX6_beyond_66 : decode cX6_beyond 66 = .ok (.iadd, 1) := by decide +kernel
theorem dX6_beyond_67 : decode cX6_beyond 67 = .ok (.goto 4, 3) := by decide +kernel
theorem dX6_beyond_70 : decode cX6_beyond 70 = .ok (.iconst (-1), 1) := by decide +kernel
theorem dX6_beyond_71 : decode cX6_beyond 71 = .ok (.ireturn, 1) := by decide +kernel
theorem dX6_beyond_72 : decode cX6_beyond 72 = .ok (.iload_n 2, 1) := by decide +kernel
theorem dX6_beyond_73 : decode cX6_beyond 73 = .ok (.iconst 3, 1) := by decide +kernel
theorem dX6_beyond_74 : decode cX6_beyond 74 = .ok (.irem, 1) := by decide +kernel
theorem dX6_beyond_75 : decode cX6_beyond 75 = .ok (.iconst 1, 1) := by decide +kernel
theorem dX6_beyond_76 : decode cX6_beyond 76 = .ok (.if_icmp .ne 22, 3) := by decide +kernel
theorem dX6_beyond_79 : decode cX6_beyond 79 = .ok (.iload 4, 2) := by decide +kernel
theorem dX6_beyond_81 : decode cX6_beyond 81 = .ok (.iload_n 3, 1) := by decide +kernel
theorem dX6_beyond_82 : decode cX6_beyond 82 = .ok (.irem, 1) := by decide +kernel
theorem dX6_beyond_83 : decode cX6_beyond 83 = .ok (.iconst 1, 1) := by decide +kernel
theorem dX6_beyond_84 : decode cX6_beyond 84 = .ok (.iadd, 1) := by decide +kernel
theorem dX6_beyond_85 : decode cX6_beyond 85 = .ok (.iload_n 3, 1) := by decide +kernel
theorem dX6_beyond_86 : decode cX6_beyond 86 = .ok (.if_icmp .ge 10, 3) := by decide +kernel
theorem dX6_beyond_89 : decode cX6_beyond 89 = .ok (.iload 4, 2) := by decide +kernel
theorem dX6_beyond_91 : decode cX6_beyond 91 = .ok (.iconst 1, 1) := by decide +kernel
theorem dX6_beyond_92 : decode cX6_beyond 92 = .ok (.iadd, 1) := by decide +kernel
theorem dX6_beyond_93 : decode cX6_beyond 93 = .ok (.goto 4, 3) := by decide +kernel
theorem dX6_beyond_96 : decode cX6_beyond 96 = .ok (.iconst (-1), 1) := by decide +kernel
theorem dX6_beyond_97 : decode cX6_beyond 97 = .ok (.ireturn, 1) := by decide +kernel
theorem dX6_beyond_98 : decode cX6_beyond 98 = .ok (.iload 4, 2) := by decide +kernel
theorem dX6_beyond_100 : decode cX6_beyond 100 = .ok (.iload_n 3, 1) := by decide +kernel
theorem dX6_beyond_101 : decode cX6_beyond 101 = .ok (.irem, 1) := by decide +kernel
theorem dX6_beyond_102 : decode cX6_beyond 102 = .ok (.ifCond .le 10, 3) := by decide +kernel
theorem dX6_beyond_105 : decode cX6_beyond 105 = .ok (.iload 4, 2) := by decide +kernel
theorem dX6_beyond_107 : decode cX6_beyond 107 = .ok (.iconst 1, 1) := by decide +kernel
theorem dX6_beyond_108 : decode cX6_beyond 108 = .ok (.isub, 1) := by decide +kernel
theorem dX6_beyond_109 : decode cX6_beyond 109 = .ok (.goto 4, 3) := by decide +kernel
theorem dX6_beyond_112 : decode cX6_beyond 112 = .ok (.iconst (-1), 1) := by decide +kernel
theorem dX6_beyond_113 : decode cX6_beyond 113 = .ok (.ireturn, 1) := by decide +kernel
theorem dX6_isOpen_0 : decode cX6_isOpen 0 = .ok (.aload_n 0, 1) := by decide +kernel
theorem dX6_isOpen_1 : decode cX6_isOpen 1 = .ok (.iload_n 1, 1) := by decide +kernel
theorem dX6_isOpen_2 : decode cX6_isOpen 2 = .ok (.iload_n 2, 1) := by decide +kernel
theorem dX6_isOpen_3 : decode cX6_isOpen 3 = .ok (.invokevirtual 70, 3) := by decide +kernel
theorem dX6_isOpen_6 : decode cX6_isOpen 6 = .ok (.istore_n 3, 1) := by decide +kernel
theorem dX6_isOpen_7 : decode cX6_isOpen 7 = .ok (.iload_n 3, 1) := by decide +kernel
theorem dX6_isOpen_8 : decode cX6_isOpen 8 = .ok (.iconst (-1), 1) := by decide +kernel
theorem dX6_isOpen_9 : decode cX6_isOpen 9 = .ok (.if_icmp .eq 27, 3) := by decide +kernel
theorem dX6_isOpen_12 : decode cX6_isOpen 12 = .ok (.aload_n 0, 1) := by decide +kernel
theorem dX6_isOpen_13 : decode cX6_isOpen 13 = .ok (.iload_n 1, 1) := by decide +kernel
theorem dX6_isOpen_14 : decode cX6_isOpen 14 = .ok (.iload_n 2, 1) := by decide +kernel
theorem dX6_isOpen_15 : decode cX6_isOpen 15 = .ok (.iconst 3, 1) := by decide +kernel
theorem dX6_isOpen_16 : decode cX6_isOpen 16 = .ok (.idiv, 1) := by decide +kernel
theorem dX6_isOpen_17 : decode cX6_isOpen 17 = .ok (.invokevirtual 54, 3) := by decide +kernel
theorem dX6_isOpen_20 : decode cX6_isOpen 20 = .ok (.ifCond .eq 16, 3) := by decide +kernel
theorem dX6_isOpen_23 : decode cX6_isOpen 23 = .ok (.aload_n 0, 1) := by decide +kernel
theorem dX6_isOpen_24 : decode cX6_isOpen 24 = .ok (.iload_n 1, 1) := by decide +kernel
theorem dX6_isOpen_25 : decode cX6_isOpen 25 = .ok (.iload_n 3, 1) := by decide +kernel
theorem dX6_isOpen_26 : decode cX6_isOpen 26 = .ok (.invokevirtual 54, 3) := by decide +kernel
theorem dX6_isOpen_29 : decode cX6_isOpen 29 = .ok (.ifCond .ne 7, 3) := by decide +kernel
theorem dX6_isOpen_32 : decode cX6_isOpen 32 = .ok (.iconst 1, 1) := by decide +kernel
theorem dX6_isOpen_33 : decode cX6_isOpen 33 = .ok (.goto 4, 3) := by decide +kernel
theorem dX6_isOpen_36 : decode cX6_isOpen 36 = .ok (.iconst 0, 1) := by decide +kernel
theorem dX6_isOpen_37 : decode cX6_isOpen 37 = .ok (.ireturn, 1) := by decide +kernel
theorem dX6_isJoint_0 : decode cX6_isJoint 0 = .ok (.aload_n 0, 1) := by decide +kernel
theorem dX6_isJoint_1 : decode cX6_isJoint 1 = .ok (.iload_n 1, 1) := by decide +kernel
theorem dX6_isJoint_2 : decode cX6_isJoint 2 = .ok (.iload_n 2, 1) := by decide +kernel
theorem dX6_isJoint_3 : decode cX6_isJoint 3 = .ok (.invokevirtual 70, 3) := by decide +kernel
theorem dX6_isJoint_6 : decode cX6_isJoint 6 = .ok (.istore_n 3, 1) := by decide +kernel
theorem dX6_isJoint_7 : decode cX6_isJoint 7 = .ok (.iload_n 3, 1) := by decide +kernel
theorem dX6_isJoint_8 : decode cX6_isJoint 8 = .ok (.iconst (-1), 1) := by decide +kernel
theorem dX6_isJoint_9 : decode cX6_isJoint 9 = .ok (.if_icmp .eq 14, 3) := by decide +kernel
theorem dX6_isJoint_12 : decode cX6_isJoint 12 = .ok (.aload_n 0, 1) := by decide +kernel
theorem dX6_isJoint_13 : decode cX6_isJoint 13 = .ok (.iload_n 1, 1) := by decide +kernel
theorem dX6_isJoint_14 : decode cX6_isJoint 14 = .ok (.iload_n 2, 1) := by decide +kernel
theorem dX6_isJoint_15 : decode cX6_isJoint 15 = .ok (.iconst 3, 1) := by decide +kernel
theorem dX6_isJoint_16 : decode cX6_isJoint 16 = .ok (.idiv, 1) := by decide +kernel
theorem dX6_isJoint_17 : decode cX6_isJoint 17 = .ok (.invokevirtual 54, 3) := by decide +kernel
theorem dX6_isJoint_20 : decode cX6_isJoint 20 = .ok (.ifCond .ne 5, 3) := by decide +kernel
theorem dX6_isJoint_23 : decode cX6_isJoint 23 = .ok (.iconst 0, 1) := by decide +kernel
theorem dX6_isJoint_24 : decode cX6_isJoint 24 = .ok (.ireturn, 1) := by decide +kernel
theorem dX6_isJoint_25 : decode cX6_isJoint 25 = .ok (.aload_n 0, 1) := by decide +kernel
theorem dX6_isJoint_26 : decode cX6_isJoint 26 = .ok (.iload_n 1, 1) := by decide +kernel
theorem dX6_isJoint_27 : decode cX6_isJoint 27 = .ok (.iload_n 3, 1) := by decide +kernel
theorem dX6_isJoint_28 : decode cX6_isJoint 28 = .ok (.invokevirtual 54, 3) := by decide +kernel
theorem dX6_isJoint_31 : decode cX6_isJoint 31 = .ok (.ifCond .eq 17, 3) := by decide +kernel
theorem dX6_isJoint_34 : decode cX6_isJoint 34 = .ok (.aload_n 0, 1) := by decide +kernel
theorem dX6_isJoint_35 : decode cX6_isJoint 35 = .ok (.getfield 7, 3) := by decide +kernel
theorem dX6_isJoint_38 : decode cX6_isJoint 38 = .ok (.iload_n 1, 1) := by decide +kernel
theorem dX6_isJoint_39 : decode cX6_isJoint 39 = .ok (.bipush 34, 2) := by decide +kernel
theorem dX6_isJoint_41 : decode cX6_isJoint 41 = .ok (.iadd, 1) := by decide +kernel
theorem dX6_isJoint_42 : decode cX6_isJoint 42 = .ok (.iload_n 3, 1) := by decide +kernel
theorem dX6_isJoint_43 : decode cX6_isJoint 43 = .ok (.iadd, 1) := by decide +kernel
theorem dX6_isJoint_44 : decode cX6_isJoint 44 = .ok (.iaload, 1) := by decide +kernel
theorem dX6_isJoint_45 : decode cX6_isJoint 45 = .ok (.goto 11, 3) := by decide +kernel
theorem dX6_isJoint_48 : decode cX6_isJoint 48 = .ok (.aload_n 0, 1) := by decide +kernel
theorem dX6_isJoint_49 : decode cX6_isJoint 49 = .ok (.getfield 7, 3) := by decide +kernel
theorem dX6_isJoint_52 : decode cX6_isJoint 52 = .ok (.iload_n 1, 1) := by decide +kernel
theorem dX6_isJoint_53 : decode cX6_isJoint 53 = .ok (.iconst 2, 1) := by decide +kernel
theorem dX6_isJoint_54 : decode cX6_isJoint 54 = .ok (.iadd, 1) := by decide +kernel
theorem dX6_isJoint_55 : decode cX6_isJoint 55 = .ok (.iaload, 1) := by decide +kernel
theorem dX6_isJoint_56 : decode cX6_isJoint 56 = .ok (.istore 4, 2) := by decide +kernel
theorem dX6_isJoint_58 : decode cX6_isJoint 58 = .ok (.iload 4, 2) := by decide +kernel
theorem dX6_isJoint_60 : decode cX6_isJoint 60 = .ok (.aload_n 0, 1) := by decide +kernel
theorem dX6_isJoint_61 : decode cX6_isJoint 61 = .ok (.getfield 7, 3) := by decide +kernel
theorem dX6_isJoint_64 : decode cX6_isJoint 64 = .ok (.iload_n 1, 1) := by decide +kernel
theorem dX6_isJoint_65 : decode cX6_isJoint 65 = .ok (.bipush 43, 2) := by decide +kernel
theorem dX6_isJoint_67 : decode cX6_isJoint 67 = .ok (.iadd, 1) := by decide +kernel
theorem dX6_isJoint_68 : decode cX6_isJoint 68 = .ok (.iload_n 2, 1) := by decide +kernel
theorem dX6_isJoint_69 : decode cX6_isJoint 69 = .ok (.iconst 3, 1) := by decide +kernel
theorem dX6_isJoint_70 : decode cX6_isJoint 70 = .ok (.idiv, 1) := by decide +kernel
theorem dX6_isJoint_71 : decode cX6_isJoint 71 = .ok (.iadd, 1) := by decide +kernel
theorem dX6_isJoint_72 : decode cX6_isJoint 72 = .ok (.iaload, 1) := by decide +kernel
theorem dX6_isJoint_73 : decode cX6_isJoint 73 = .ok (.isub, 1) := by decide +kernel
theorem dX6_isJoint_74 : decode cX6_isJoint 74 = .ok (.aload_n 0, 1) := by decide +kernel
theorem dX6_isJoint_75 : decode cX6_isJoint 75 = .ok (.getfield 7, 3) := by decide +kernel
theorem dX6_isJoint_78 : decode cX6_isJoint 78 = .ok (.iload_n 1, 1) := by decide +kernel
theorem dX6_isJoint_79 : decode cX6_isJoint 79 = .ok (.iconst 4, 1) := by decide +kernel
theorem dX6_isJoint_80 : decode cX6_isJoint 80 = .ok (.iadd, 1) := by decide +kernel
theorem dX6_isJoint_81 : decode cX6_isJoint 81 = .ok (.iaload, 1) := by decide +kernel
theorem dX6_isJoint_82 : decode cX6_isJoint 82 = .ok (.if_icmp .le 7, 3) := by decide +kernel
theorem dX6_isJoint_85 : decode cX6_isJoint 85 = .ok (.iconst 1, 1) := by decide +kernel
theorem dX6_isJoint_86 : decode cX6_isJoint 86 = .ok (.goto 4, 3) := by decide +kernel
theorem dX6_isJoint_89 : decode cX6_isJoint 89 = .ok (.iconst 0, 1) := by decide +kernel
theorem dX6_isJoint_90 : decode cX6_isJoint 90 = .ok (.ireturn, 1) := by decide +kernel
theorem dX6_harm_0 : decode cX6_harm 0 = .ok (.iconst 0, 1) := by decide +kernel
theorem dX6_harm_1 : decode cX6_harm 1 = .ok (.istore_n 3, 1) := by decide +kernel
theorem dX6_harm_2 : decode cX6_harm 2 = .ok (.iconst 0, 1) := by decide +kernel
theorem dX6_harm_3 : decode cX6_harm 3 = .ok (.istore 4, 2) := by decide +kernel
theorem dX6_harm_5 : decode cX6_harm 5 = .ok (.iload 4, 2) := by decide +kernel
theorem dX6_harm_7 : decode cX6_harm 7 = .ok (.bipush 27, 2) := by decide +kernel
theorem dX6_harm_9 : decode cX6_harm 9 = .ok (.if_icmp .ge 79, 3) := by decide +kernel
theorem dX6_harm_12 : decode cX6_harm 12 = .ok (.aload_n 0, 1) := by decide +kernel
theorem dX6_harm_13 : decode cX6_harm 13 = .ok (.iload_n 1, 1) := by decide +kernel
theorem dX6_harm_14 : decode cX6_harm 14 = .ok (.iload 4, 2) := by decide +kernel
theorem dX6_harm_16 : decode cX6_harm 16 = .ok (.invokevirtual 73, 3) := by decide +kernel
theorem dX6_harm_19 : decode cX6_harm 19 = .ok (.ifCond .ne 17, 3) := by decide +kernel
theorem dX6_harm_22 : decode cX6_harm 22 = .ok (.iload_n 2, 1) := by decide +kernel
theorem dX6_harm_23 : decode cX6_harm 23 = .ok (.ifCond .eq 17, 3) := by decide +kernel
theorem dX6_harm_26 : decode cX6_harm 26 = .ok (.aload_n 0, 1) := by decide +kernel
theorem dX6_harm_27 : decode cX6_harm 27 = .ok (.iload_n 1, 1) := by decide +kernel
theorem dX6_harm_28 : decode cX6_harm 28 = .ok (.iload 4, 2) := by decide +kernel
theorem dX6_harm_30 : decode cX6_harm 30 = .ok (.invokevirtual 76, 3) := by decide +kernel
theorem dX6_harm_33 : decode cX6_harm 33 = .ok (.ifCond .eq 7, 3) := by decide +kernel
theorem dX6_harm_36 : decode cX6_harm 36 = .ok (.iconst 1, 1) := by decide +kernel
theorem dX6_harm_37 : decode cX6_harm 37 = .ok (.goto 4, 3) := by decide +kernel
theorem dX6_harm_40 : decode cX6_harm 40 = .ok (.iconst 0, 1) := by decide +kernel
theorem dX6_harm_41 : decode cX6_harm 41 = .ok (.istore 5, 2) := by decide +kernel
theorem dX6_harm_43 : decode cX6_harm 43 = .ok (.iload_n 3, 1) := by decide +kernel
theorem dX6_harm_44 : decode cX6_harm 44 = .ok (.iload 5, 2) := by decide +kernel
theorem dX6_harm_46 : decode cX6_harm 46 = .ok (.ifCond .eq 33, 3) := by decide +kernel
theorem dX6_harm_49 : decode cX6_harm 49 = .ok (.iload 4, 2) := by decide +kernel
theorem dX6_harm_51 : decode cX6_harm 51 = .ok (.iconst 3, 1) := by decide +kernel
theorem dX6_harm_52 : decode cX6_harm 52 = .ok (.irem, 1) := by decide +kernel
theorem dX6_harm_53 : decode cX6_harm 53 = .ok (.ifCond .ne 14, 3) := by decide +kernel
theorem dX6_harm_56 : decode cX6_harm 56 = .ok (.aload_n 0, 1) := by decide +kernel
theorem dX6_harm_57 : decode cX6_harm 57 = .ok (.getfield 7, 3) := by decide +kernel
theorem dX6_harm_60 : decode cX6_harm 60 = .ok (.iload_n 1, 1) := by decide +kernel
theorem dX6_harm_61 : decode cX6_harm 61 = .ok (.iconst 5, 1) := by decide +kernel
theorem dX6_harm_62 : decode cX6_harm 62 = .ok (.iadd, 1) := by decide +kernel
theorem dX6_harm_63 : decode cX6_harm 63 = .ok (.iaload, 1) := by decide +kernel
theorem dX6_harm_64 : decode cX6_harm 64 = .ok (.goto 16, 3) := by decide +kernel
theorem dX6_harm_67 : decode cX6_harm 67 = .ok (.aload_n 0, 1) := by decide +kernel
theorem dX6_harm_68 : decode cX6_harm 68 = .ok (.getfield 7, 3) := by decide +kernel
theorem dX6_harm_71 : decode cX6_harm 71 = .ok (.iload_n 1, 1) := by decide +kernel
theorem dX6_harm_72 : decode cX6_harm 72 = .ok (.bipush 6, 2) := by decide +kernel
theorem dX6_harm_74 : decode cX6_harm 74 = .ok (.iadd, 1) := by decide +kernel
theorem dX6_harm_75 : decode cX6_harm 75 = .ok (.iaload, 1) := by decide +kernel
theorem dX6_harm_76 : decode cX6_harm 76 = .ok (.goto 4, 3) := by decide +kernel
theorem dX6_harm_79 : decode cX6_harm 79 = .ok (.iconst 0, 1) := by decide +kernel
theorem dX6_harm_80 : decode cX6_harm 80 = .ok (.iadd, 1) := by decide +kernel
theorem dX6_harm_81 : decode cX6_harm 81 = .ok (.istore_n 3, 1) := by decide +kernel
theorem dX6_harm_82 : decode cX6_harm 82 = .ok (.iinc 4 1, 3) := by decide +kernel
theorem dX6_harm_85 : decode cX6_harm 85 = .ok (.goto (-80), 3) := by decide +kernel
theorem dX6_harm_88 : decode cX6_harm 88 = .ok (.iload_n 3, 1) := by decide +kernel
theorem dX6_harm_89 : decode cX6_harm 89 = .ok (.ireturn, 1) := by decide +kernel
theorem dX6_left_0 : decode cX6_left 0 = .ok (.aload_n 0, 1) := by decide +kernel
theorem dX6_left_1 : decode cX6_left 1 = .ok (.iconst 0, 1) := by decide +kernel
theorem dX6_left_2 : decode cX6_left 2 = .ok (.iload_n 1, 1) := by decide +kernel
theorem dX6_left_3 : decode cX6_left 3 = .ok (.invokevirtual 76, 3) := by decide +kernel
theorem dX6_left_6 : decode cX6_left 6 = .ok (.ifCond .eq 40, 3) := by decide +kernel
theorem dX6_left_9 : decode cX6_left 9 = .ok (.aload_n 0, 1) := by decide +kernel
theorem dX6_left_10 : decode cX6_left 10 = .ok (.iconst 0, 1) := by decide +kernel
theorem dX6_left_11 : decode cX6_left 11 = .ok (.iload_n 1, 1) := by decide +kernel
theorem dX6_left_12 : decode cX6_left 12 = .ok (.invokevirtual 73, 3) := by decide +kernel
theorem dX6_left_15 : decode cX6_left 15 = .ok (.ifCond .ne 31, 3) := by decide +kernel
theorem dX6_left_18 : decode cX6_left 18 = .ok (.aload_n 0, 1) := by decide +kernel
theorem dX6_left_19 : decode cX6_left 19 = .ok (.getfield 7, 3) := by decide +kernel
theorem dX6_left_22 : decode cX6_left 22 = .ok (.iconst 4, 1) := by decide +kernel
theorem dX6_left_23 : decode cX6_left 23 = .ok (.iaload, 1) := by decide +kernel
theorem dX6_left_24 : decode cX6_left 24 = .ok (.aload_n 0, 1) := by decide +kernel
theorem dX6_left_25 : decode cX6_left 25 = .ok (.getfield 7, 3) := by decide +kernel
theorem dX6_left_28 : decode cX6_left 28 = .ok (.iconst 2, 1) := by decide +kernel
theorem dX6_left_29 : decode cX6_left 29 = .ok (.iaload, 1) := by decide +kernel
theorem dX6_left_30 : decode cX6_left 30 = .ok (.isub, 1) := by decide +kernel
theorem dX6_left_31 : decode cX6_left 31 = .ok (.aload_n 0, 1) := by decide +kernel
theorem dX6_left_32 : decode cX6_left 32 = .ok (.getfield 7, 3) := by decide +kernel
theorem dX6_left_35 : decode cX6_left 35 = .ok (.bipush 43, 2) := by decide +kernel
theorem dX6_left_37 : decode cX6_left 37 = .ok (.iload_n 1, 1) := by decide +kernel
theorem dX6_left_38 : decode cX6_left 38 = .ok (.iconst 3, 1) := by decide +kernel
theorem dX6_left_39 : decode cX6_left 39 = .ok (.idiv, 1) := by decide +kernel
theorem dX6_left_40 : decode cX6_left 40 = .ok (.iadd, 1) := by decide +kernel
theorem dX6_left_41 : decode cX6_left 41 = .ok (.iaload, 1) := by decide +kernel
theorem dX6_left_42 : decode cX6_left 42 = .ok (.iadd, 1) := by decide +kernel
theorem dX6_left_43 : decode cX6_left 43 = .ok (.goto 6, 3) := by decide +kernel
theorem dX6_left_46 : decode cX6_left 46 = .ok (.sipush (-1000), 3) := by decide +kernel
theorem dX6_left_49 : decode cX6_left 49 = .ok (.ireturn, 1) := by decide +kernel
theorem dX6_firstToSet_0 : decode cX6_firstToSet 0 = .ok (.iconst (-1), 1) := by decide +kernel
theorem dX6_firstToSet_1 : decode cX6_firstToSet 1 = .ok (.istore_n 1, 1) := by decide +kernel
theorem dX6_firstToSet_2 : decode cX6_firstToSet 2 = .ok (.iconst 0, 1) := by decide +kernel
theorem dX6_firstToSet_3 : decode cX6_firstToSet 3 = .ok (.istore_n 2, 1) := by decide +kernel
theorem dX6_firstToSet_4 : decode cX6_firstToSet 4 = .ok (.iload_n 2, 1) := by decide +kernel
theorem dX6_firstToSet_5 : decode cX6_firstToSet 5 = .ok (.bipush 27, 2) := by decide +kernel
theorem dX6_firstToSet_7 : decode cX6_firstToSet 7 = .ok (.if_icmp .ge 44, 3) := by decide +kernel
theorem dX6_firstToSet_10 : decode cX6_firstToSet 10 = .ok (.aload_n 0, 1) := by decide +kernel
theorem dX6_firstToSet_11 : decode cX6_firstToSet 11 = .ok (.iload_n 2, 1) := by decide +kernel
theorem dX6_firstToSet_12 : decode cX6_firstToSet 12 = .ok (.invokevirtual 79, 3) := by decide +kernel
theorem dX6_firstToSet_15 : decode cX6_firstToSet 15 = .ok (.sipush (-1000), 3) := by decide +kernel
theorem dX6_firstToSet_18 : decode cX6_firstToSet 18 = .ok (.if_icmp .eq 25, 3) := by decide +kernel
theorem dX6_firstToSet_21 : decode cX6_firstToSet 21 = .ok (.iload_n 1, 1) := by decide +kernel
theorem dX6_firstToSet_22 : decode cX6_firstToSet 22 = .ok (.iconst (-1), 1) := by decide +kernel
theorem dX6_firstToSet_23 : decode cX6_firstToSet 23 = .ok (.if_icmp .eq 16, 3) := by decide +kernel
theorem dX6_firstToSet_26 : decode cX6_firstToSet 26 = .ok (.aload_n 0, 1) := by decide +kernel
theorem dX6_firstToSet_27 : decode cX6_firstToSet 27 = .ok (.iload_n 2, 1) := by decide +kernel
theorem dX6_firstToSet_28 : decode cX6_firstToSet 28 = .ok (.invokevirtual 79, 3) := by decide +kernel
theorem dX6_firstToSet_31 : decode cX6_firstToSet 31 = .ok (.aload_n 0, 1) := by decide +kernel
theorem dX6_firstToSet_32 : decode cX6_firstToSet 32 = .ok (.iload_n 1, 1) := by decide +kernel
theorem dX6_firstToSet_33 : decode cX6_firstToSet 33 = .ok (.invokevirtual 79, 3) := by decide +kernel
theorem dX6_firstToSet_36 : decode cX6_firstToSet 36 = .ok (.if_icmp .ge 7, 3) := by decide +kernel
theorem dX6_firstToSet_39 : decode cX6_firstToSet 39 = .ok (.iload_n 2, 1) := by decide +kernel
theorem dX6_firstToSet_40 : decode cX6_firstToSet 40 = .ok (.goto 4, 3) := by decide +kernel
theorem dX6_firstToSet_43 : decode cX6_firstToSet 43 = .ok (.iload_n 1, 1) := by decide +kernel
theorem dX6_firstToSet_44 : decode cX6_firstToSet 44 = .ok (.istore_n 1, 1) := by decide +kernel
theorem dX6_firstToSet_45 : decode cX6_firstToSet 45 = .ok (.iinc 2 1, 3) := by decide +kernel
theorem dX6_firstToSet_48 : decode cX6_firstToSet 48 = .ok (.goto (-44), 3) := by decide +kernel
theorem dX6_firstToSet_51 : decode cX6_firstToSet 51 = .ok (.iload_n 1, 1) := by decide +kernel
theorem dX6_firstToSet_52 : decode cX6_firstToSet 52 = .ok (.ireturn, 1) := by decide +kernel
theorem dX6_weighs_0 : decode cX6_weighs 0 = .ok (.aload_n 0, 1) := by decide +kernel
theorem dX6_weighs_1 : decode cX6_weighs 1 = .ok (.bipush 52, 2) := by decide +kernel
theorem dX6_weighs_3 : decode cX6_weighs 3 = .ok (.iconst 0, 1) := by decide +kernel
theorem dX6_weighs_4 : decode cX6_weighs 4 = .ok (.invokevirtual 82, 3) := by decide +kernel
theorem dX6_weighs_7 : decode cX6_weighs 7 = .ok (.istore_n 2, 1) := by decide +kernel
theorem dX6_weighs_8 : decode cX6_weighs 8 = .ok (.aload_n 0, 1) := by decide +kernel
theorem dX6_weighs_9 : decode cX6_weighs 9 = .ok (.getfield 86, 3) := by decide +kernel
theorem dX6_weighs_12 : decode cX6_weighs 12 = .ok (.iconst (-1), 1) := by decide +kernel
theorem dX6_weighs_13 : decode cX6_weighs 13 = .ok (.if_icmp .eq 33, 3) := by decide +kernel
theorem dX6_weighs_16 : decode cX6_weighs 16 = .ok (.iload_n 2, 1) := by decide +kernel
theorem dX6_weighs_17 : decode cX6_weighs 17 = .ok (.aload_n 0, 1) := by decide +kernel
theorem dX6_weighs_18 : decode cX6_weighs 18 = .ok (.getfield 89, 3) := by decide +kernel
theorem dX6_weighs_21 : decode cX6_weighs 21 = .ok (.if_icmp .lt 25, 3) := by decide +kernel
theorem dX6_weighs_24 : decode cX6_weighs 24 = .ok (.iload_n 2, 1) := by decide +kernel
theorem dX6_weighs_25 : decode cX6_weighs 25 = .ok (.aload_n 0, 1) := by decide +kernel
theorem dX6_weighs_26 : decode cX6_weighs 26 = .ok (.getfield 89, 3) := by decide +kernel
theorem dX6_weighs_29 : decode cX6_weighs 29 = .ok (.if_icmp .ne 21, 3) := by decide +kernel
theorem dX6_weighs_32 : decode cX6_weighs 32 = .ok (.aload_n 0, 1) := by decide +kernel
theorem dX6_weighs_33 : decode cX6_weighs 33 = .ok (.getfield 7, 3) := by decide +kernel
theorem dX6_weighs_36 : decode cX6_weighs 36 = .ok (.bipush 54, 2) := by decide +kernel
theorem dX6_weighs_38 : decode cX6_weighs 38 = .ok (.iaload, 1) := by decide +kernel
theorem dX6_weighs_39 : decode cX6_weighs 39 = .ok (.aload_n 0, 1) := by decide +kernel
theorem dX6_weighs_40 : decode cX6_weighs 40 = .ok (.getfield 92, 3) := by decide +kernel
theorem dX6_weighs_43 : decode cX6_weighs 43 = .ok (.if_icmp .ge 7, 3) := by decide +kernel
theorem dX6_weighs_46 : decode cX6_weighs 46 = .ok (.iconst 1, 1) := by decide +kernel
theorem dX6_weighs_47 : decode cX6_weighs 47 = .ok (.goto 4, 3) := by decide +kernel
theorem dX6_weighs_50 : decode cX6_weighs 50 = .ok (.iconst 0, 1) := by decide +kernel
theorem dX6_weighs_51 : decode cX6_weighs 51 = .ok (.istore_n 3, 1) := by decide +kernel
theorem dX6_weighs_52 : decode cX6_weighs 52 = .ok (.iload_n 3, 1) := by decide +kernel
theorem dX6_weighs_53 : decode cX6_weighs 53 = .ok (.ifCond .eq 53, 3) := by decide +kernel
theorem dX6_weighs_56 : decode cX6_weighs 56 = .ok (.aload_n 0, 1) := by decide +kernel
theorem dX6_weighs_57 : decode cX6_weighs 57 = .ok (.iload_n 1, 1) := by decide +kernel
theorem dX6_weighs_58 : decode cX6_weighs 58 = .ok (.putfield 86, 3) := by decide +kernel
theorem dX6_weighs_61 : decode cX6_weighs 61 = .ok (.aload_n 0, 1) := by decide +kernel
theorem dX6_weighs_62 : decode cX6_weighs 62 = .ok (.iload_n 2, 1) := by decide +kernel
theorem dX6_weighs_63 : decode cX6_weighs 63 = .ok (.putfield 89, 3) := by decide +kernel
theorem dX6_weighs_66 : decode cX6_weighs 66 = .ok (.aload_n 0, 1) := by decide +kernel
theorem dX6_weighs_67 : decode cX6_weighs 67 = .ok (.aload_n 0, 1) := by decide +kernel
theorem dX6_weighs_68 : decode cX6_weighs 68 = .ok (.getfield 7, 3) := by decide +kernel
theorem dX6_weighs_71 : decode cX6_weighs 71 = .ok (.bipush 54, 2) := by decide +kernel
theorem dX6_weighs_73 : decode cX6_weighs 73 = .ok (.iaload, 1) := by decide +kernel
theorem dX6_weighs_74 : decode cX6_weighs 74 = .ok (.putfield 92, 3) := by decide +kernel
theorem dX6_weighs_77 : decode cX6_weighs 77 = .ok (.iconst 0, 1) := by decide +kernel
theorem dX6_weighs_78 : decode cX6_weighs 78 = .ok (.istore 4, 2) := by decide +kernel
theorem dX6_weighs_80 : decode cX6_weighs 80 = .ok (.iload 4, 2) := by decide +kernel
theorem dX6_weighs_82 : decode cX6_weighs 82 = .ok (.iload_n 1, 1) := by decide +kernel
theorem dX6_weighs_83 : decode cX6_weighs 83 = .ok (.if_icmp .ge 23, 3) := by decide +kernel
theorem dX6_weighs_86 : decode cX6_weighs 86 = .ok (.aload_n 0, 1) := by decide +kernel
theorem dX6_weighs_87 : decode cX6_weighs 87 = .ok (.getfield 26, 3) := by decide +kernel
theorem dX6_weighs_90 : decode cX6_weighs 90 = .ok (.iload 4, 2) := by decide +kernel
theorem dX6_weighs_92 : decode cX6_weighs 92 = .ok (.aload_n 0, 1) := by decide +kernel
theorem dX6_weighs_93 : decode cX6_weighs 93 = .ok (.getfield 29, 3) := by decide +kernel
theorem dX6_weighs_96 : decode cX6_weighs 96 = .ok (.iload 4, 2) := by decide +kernel
theorem dX6_weighs_98 : decode cX6_weighs 98 = .ok (.iaload, 1) := by decide +kernel
theorem dX6_weighs_99 : decode cX6_weighs 99 = .ok (.iastore, 1) := by decide +kernel
theorem dX6_weighs_100 : decode cX6_weighs 100 = .ok (.iinc 4 1, 3) := by decide +kernel
theorem dX6_weighs_103 : decode cX6_weighs 103 = .ok (.goto (-23), 3) := by decide +kernel
theorem dX6_weighs_106 : decode cX6_weighs 106 = .ok (.return_, 1) := by decide +kernel
theorem dX6_seeks_0 : decode cX6_seeks 0 = .ok (.aload_n 0, 1) := by decide +kernel
theorem dX6_seeks_1 : decode cX6_seeks 1 = .ok (.iconst (-1), 1) := by decide +kernel
theorem dX6_seeks_2 : decode cX6_seeks 2 = .ok (.putfield 86, 3) := by decide +kernel
theorem dX6_seeks_5 : decode cX6_seeks 5 = .ok (.aload_n 0, 1) := by decide +kernel
theorem dX6_seeks_6 : decode cX6_seeks 6 = .ok (.iconst (-1), 1) := by decide +kernel
theorem dX6_seeks_7 : decode cX6_seeks 7 = .ok (.putfield 89, 3) := by decide +kernel
theorem dX6_seeks_10 : decode cX6_seeks 10 = .ok (.aload_n 0, 1) := by decide +kernel
theorem dX6_seeks_11 : decode cX6_seeks 11 = .ok (.iconst (-1), 1) := by decide +kernel
theorem dX6_seeks_12 : decode cX6_seeks 12 = .ok (.putfield 92, 3) := by decide +kernel
theorem dX6_seeks_15 : decode cX6_seeks 15 = .ok (.aload_n 0, 1) := by decide +kernel
theorem dX6_seeks_16 : decode cX6_seeks 16 = .ok (.getfield 7, 3) := by decide +kernel
theorem dX6_seeks_19 : decode cX6_seeks 19 = .ok (.bipush 52, 2) := by decide +kernel
theorem dX6_seeks_21 : decode cX6_seeks 21 = .ok (.iaload, 1) := by decide +kernel
theorem dX6_seeks_22 : decode cX6_seeks 22 = .ok (.aload_n 0, 1) := by decide +kernel
theorem dX6_seeks_23 : decode cX6_seeks 23 = .ok (.getfield 7, 3) := by decide +kernel
theorem dX6_seeks_26 : decode cX6_seeks 26 = .ok (.bipush 53, 2) := by decide +kernel
theorem dX6_seeks_28 : decode cX6_seeks 28 = .ok (.iaload, 1) := by decide +kernel
theorem dX6_seeks_29 : decode cX6_seeks 29 = .ok (.imul, 1) := by decide +kernel
theorem dX6_seeks_30 : decode cX6_seeks 30 = .ok (.istore_n 1, 1) := by decide +kernel
theorem dX6_seeks_31 : decode cX6_seeks 31 = .ok (.iconst 0, 1) := by decide +kernel
theorem dX6_seeks_32 : decode cX6_seeks 32 = .ok (.istore_n 2, 1) := by decide +kernel
theorem dX6_seeks_33 : decode cX6_seeks 33 = .ok (.iconst 0, 1) := by decide +kernel
theorem dX6_seeks_34 : decode cX6_seeks 34 = .ok (.istore_n 3, 1) := by decide +kernel
theorem dX6_seeks_35 : decode cX6_seeks 35 = .ok (.iload_n 3, 1) := by decide +kernel
theorem dX6_seeks_36 : decode cX6_seeks 36 = .ok (.iload_n 1, 1) := by decide +kernel
theorem dX6_seeks_37 : decode cX6_seeks 37 = .ok (.if_icmp .ge 27, 3) := by decide +kernel
theorem dX6_seeks_40 : decode cX6_seeks 40 = .ok (.iload_n 2, 1) := by decide +kernel
theorem dX6_seeks_41 : decode cX6_seeks 41 = .ok (.aload_n 0, 1) := by decide +kernel
theorem dX6_seeks_42 : decode cX6_seeks 42 = .ok (.bipush 52, 2) := by decide +kernel
theorem dX6_seeks_44 : decode cX6_seeks 44 = .ok (.iload_n 3, 1) := by decide +kernel
theorem dX6_seeks_45 : decode cX6_seeks 45 = .ok (.invokevirtual 54, 3) := by decide +kernel
theorem dX6_seeks_48 : decode cX6_seeks 48 = .ok (.ifCond .eq 7, 3) := by decide +kernel
theorem dX6_seeks_51 : decode cX6_seeks 51 = .ok (.iconst 0, 1) := by decide +kernel
theorem dX6_seeks_52 : decode cX6_seeks 52 = .ok (.goto 4, 3) := by decide +kernel
theorem dX6_seeks_55 : decode cX6_seeks 55 = .ok (.iconst 1, 1) := by decide +kernel
theorem dX6_seeks_56 : decode cX6_seeks 56 = .ok (.iadd, 1) := by decide +kernel
theorem dX6_seeks_57 : decode cX6_seeks 57 = .ok (.istore_n 2, 1) := by decide +kernel
theorem dX6_seeks_58 : decode cX6_seeks 58 = .ok (.iinc 3 1, 3) := by decide +kernel
theorem dX6_seeks_61 : decode cX6_seeks 61 = .ok (.goto (-26), 3) := by decide +kernel
theorem dX6_seeks_64 : decode cX6_seeks 64 = .ok (.iconst 0, 1) := by decide +kernel
theorem dX6_seeks_65 : decode cX6_seeks 65 = .ok (.istore_n 3, 1) := by decide +kernel
theorem dX6_seeks_66 : decode cX6_seeks 66 = .ok (.aload_n 0, 1) := by decide +kernel
theorem dX6_seeks_67 : decode cX6_seeks 67 = .ok (.getfield 29, 3) := by decide +kernel
theorem dX6_seeks_70 : decode cX6_seeks 70 = .ok (.iconst 0, 1) := by decide +kernel
theorem dX6_seeks_71 : decode cX6_seeks 71 = .ok (.iconst (-1), 1) := by decide +kernel
theorem dX6_seeks_72 : decode cX6_seeks 72 = .ok (.iastore, 1) := by decide +kernel
theorem dX6_seeks_73 : decode cX6_seeks 73 = .ok (.iload_n 3, 1) := by decide +kernel
theorem dX6_seeks_74 : decode cX6_seeks 74 = .ok (.ifCond .lt 151, 3) := by decide +kernel
theorem dX6_seeks_77 : decode cX6_seeks 77 = .ok (.iload_n 3, 1) := by decide +kernel
theorem dX6_seeks_78 : decode cX6_seeks 78 = .ok (.iload_n 2, 1) := by decide +kernel
theorem dX6_seeks_79 : decode cX6_seeks 79 = .ok (.if_icmp .ne 14, 3) := by decide +kernel
theorem dX6_seeks_82 : decode cX6_seeks 82 = .ok (.aload_n 0, 1) := by decide +kernel
theorem dX6_seeks_83 : decode cX6_seeks 83 = .ok (.iload_n 3, 1) := by decide +kernel
theorem dX6_seeks_84 : decode cX6_seeks 84 = .ok (.invokevirtual 95, 3) := by decide +kernel
theorem dX6_seeks_87 : decode cX6_seeks 87 = .ok (.iinc 3 (-1), 3) := by decide +kernel
theorem dX6_seeks_90 : decode cX6_seeks 90 = .ok (.goto (-17), 3) := by decide +kernel
theorem dX6_seeks_93 : decode cX6_seeks 93 = .ok (.aload_n 0, 1) := by decide +kernel
theorem dX6_seeks_94 : decode cX6_seeks 94 = .ok (.getfield 29, 3) := by decide +kernel
theorem dX6_seeks_97 : decode cX6_seeks 97 = .ok (.iload_n 3, 1) := by decide +kernel
theorem dX6_seeks_98 : decode cX6_seeks 98 = .ok (.iaload, 1) := by decide +kernel
theorem dX6_seeks_99 : decode cX6_seeks 99 = .ok (.iconst (-1), 1) := by decide +kernel
theorem dX6_seeks_100 : decode cX6_seeks 100 = .ok (.if_icmp .eq 46, 3) := by decide +kernel
theorem dX6_seeks_103 : decode cX6_seeks 103 = .ok (.aload_n 0, 1) := by decide +kernel
theorem dX6_seeks_104 : decode cX6_seeks 104 = .ok (.getfield 7, 3) := by decide +kernel
theorem dX6_seeks_107 : decode cX6_seeks 107 = .ok (.bipush 86, 2) := by decide +kernel
theorem dX6_seeks_109 : decode cX6_seeks 109 = .ok (.aload_n 0, 1) := by decide +kernel
theorem dX6_seeks_110 : decode cX6_seeks 110 = .ok (.getfield 29, 3) := by decide +kernel
theorem dX6_seeks_113 : decode cX6_seeks 113 = .ok (.iload_n 3, 1) := by decide +kernel
theorem dX6_seeks_114 : decode cX6_seeks 114 = .ok (.iaload, 1) := by decide +kernel
theorem dX6_seeks_115 : decode cX6_seeks 115 = .ok (.iadd, 1) := by decide +kernel
theorem dX6_seeks_116 : decode cX6_seeks 116 = .ok (.iconst (-1), 1) := by decide +kernel
theorem dX6_seeks_117 : decode cX6_seeks 117 = .ok (.iastore, 1) := by decide +kernel
theorem dX6_seeks_118 : decode cX6_seeks 118 = .ok (.aload_n 0, 1) := by decide +kernel
theorem dX6_seeks_119 : decode cX6_seeks 119 = .ok (.getfield 7, 3) := by decide +kernel
theorem dX6_seeks_122 : decode cX6_seeks 122 = .ok (.bipush 95, 2) := by decide +kernel
theorem dX6_seeks_124 : decode cX6_seeks 124 = .ok (.aload_n 0, 1) := by decide +kernel
theorem dX6_seeks_125 : decode cX6_seeks 125 = .ok (.getfield 29, 3) := by decide +kernel
theorem dX6_seeks_128 : decode cX6_seeks 128 = .ok (.iload_n 3, 1) := by decide +kernel
theorem dX6_seeks_129 : decode cX6_seeks 129 = .ok (.iaload, 1) := by decide +kernel
theorem dX6_seeks_130 : decode cX6_seeks 130 = .ok (.iadd, 1) := by decide +kernel
theorem dX6_seeks_131 : decode cX6_seeks 131 = .ok (.iconst (-1), 1) := by decide +kernel
theorem dX6_seeks_132 : decode cX6_seeks 132 = .ok (.iastore, 1) := by decide +kernel
theorem dX6_seeks_133 : decode cX6_seeks 133 = .ok (.aload_n 0, 1) := by decide +kernel
theorem dX6_seeks_134 : decode cX6_seeks 134 = .ok (.getfield 7, 3) := by decide +kernel
theorem dX6_seeks_137 : decode cX6_seeks 137 = .ok (.bipush 54, 2) := by decide +kernel
theorem dX6_seeks_139 : decode cX6_seeks 139 = .ok (.aload_n 0, 1) := by decide +kernel
theorem dX6_seeks_140 : decode cX6_seeks 140 = .ok (.getfield 32, 3) := by decide +kernel
theorem dX6_seeks_143 : decode cX6_seeks 143 = .ok (.iload_n 3, 1) := by decide +kernel
theorem dX6_seeks_144 : decode cX6_seeks 144 = .ok (.iaload, 1) := by decide +kernel
theorem dX6_seeks_145 : decode cX6_seeks 145 = .ok (.iastore, 1) := by decide +kernel
theorem dX6_seeks_146 : decode cX6_seeks 146 = .ok (.aload_n 0, 1) := by decide +kernel
theorem dX6_seeks_147 : decode cX6_seeks 147 = .ok (.getfield 32, 3) := by decide +kernel
theorem dX6_seeks_150 : decode cX6_seeks 150 = .ok (.iload_n 3, 1) := by decide +kernel
theorem dX6_seeks_151 : decode cX6_seeks 151 = .ok (.aload_n 0, 1) := by decide +kernel
theorem dX6_seeks_152 : decode cX6_seeks 152 = .ok (.getfield 7, 3) := by decide +kernel
theorem dX6_seeks_155 : decode cX6_seeks 155 = .ok (.bipush 54, 2) := by decide +kernel
theorem dX6_seeks_157 : decode cX6_seeks 157 = .ok (.iaload, 1) := by decide +kernel
theorem dX6_seeks_158 : decode cX6_seeks 158 = .ok (.iastore, 1) := by decide +kernel
theorem dX6_seeks_159 : decode cX6_seeks 159 = .ok (.aload_n 0, 1) := by decide +kernel
theorem dX6_seeks_160 : decode cX6_seeks 160 = .ok (.getfield 29, 3) := by decide +kernel
theorem dX6_seeks_163 : decode cX6_seeks 163 = .ok (.iload_n 3, 1) := by decide +kernel
theorem dX6_seeks_164 : decode cX6_seeks 164 = .ok (.iaload, 1) := by decide +kernel
theorem dX6_seeks_165 : decode cX6_seeks 165 = .ok (.iconst 1, 1) := by decide +kernel
theorem dX6_seeks_166 : decode cX6_seeks 166 = .ok (.iadd, 1) := by decide +kernel
theorem dX6_seeks_167 : decode cX6_seeks 167 = .ok (.istore 4, 2) := by decide +kernel
theorem dX6_seeks_169 : decode cX6_seeks 169 = .ok (.iload 4, 2) := by decide +kernel
theorem dX6_seeks_171 : decode cX6_seeks 171 = .ok (.iload_n 1, 1) := by decide +kernel
theorem dX6_seeks_172 : decode cX6_seeks 172 = .ok (.if_icmp .ge 20, 3) := by decide +kernel
theorem dX6_seeks_175 : decode cX6_seeks 175 = .ok (.aload_n 0, 1) := by decide +kernel
theorem dX6_seeks_176 : decode cX6_seeks 176 = .ok (.bipush 52, 2) := by decide +kernel
theorem dX6_seeks_178 : decode cX6_seeks 178 = .ok (.iload 4, 2) := by decide +kernel
theorem dX6_seeks_180 : decode cX6_seeks 180 = .ok (.invokevirtual 99, 3) := by decide +kernel
theorem dX6_seeks_183 : decode cX6_seeks 183 = .ok (.ifCond .ne 9, 3) := by decide +kernel
theorem dX6_seeks_186 : decode cX6_seeks 186 = .ok (.iinc 4 1, 3) := by decide +kernel
theorem dX6_seeks_189 : decode cX6_seeks 189 = .ok (.goto (-20), 3) := by decide +kernel
theorem dX6_seeks_192 : decode cX6_seeks 192 = .ok (.iload 4, 2) := by decide +kernel
theorem dX6_seeks_194 : decode cX6_seeks 194 = .ok (.iload_n 1, 1) := by decide +kernel
theorem dX6_seeks_195 : decode cX6_seeks 195 = .ok (.if_icmp .ge 24, 3) := by decide +kernel
theorem dX6_seeks_198 : decode cX6_seeks 198 = .ok (.aload_n 0, 1) := by decide +kernel
theorem dX6_seeks_199 : decode cX6_seeks 199 = .ok (.getfield 29, 3) := by decide +kernel
theorem dX6_seeks_202 : decode cX6_seeks 202 = .ok (.iload_n 3, 1) := by decide +kernel
theorem dX6_seeks_203 : decode cX6_seeks 203 = .ok (.iload 4, 2) := by decide +kernel
theorem dX6_seeks_205 : decode cX6_seeks 205 = .ok (.iastore, 1) := by decide +kernel
theorem dX6_seeks_206 : decode cX6_seeks 206 = .ok (.iinc 3 1, 3) := by decide +kernel
theorem dX6_seeks_209 : decode cX6_seeks 209 = .ok (.aload_n 0, 1) := by decide +kernel
theorem dX6_seeks_210 : decode cX6_seeks 210 = .ok (.getfield 29, 3) := by decide +kernel
theorem dX6_seeks_213 : decode cX6_seeks 213 = .ok (.iload_n 3, 1) := by decide +kernel
theorem dX6_seeks_214 : decode cX6_seeks 214 = .ok (.iconst (-1), 1) := by decide +kernel
theorem dX6_seeks_215 : decode cX6_seeks 215 = .ok (.iastore, 1) := by decide +kernel
theorem dX6_seeks_216 : decode cX6_seeks 216 = .ok (.goto 6, 3) := by decide +kernel
theorem dX6_seeks_219 : decode cX6_seeks 219 = .ok (.iinc 3 (-1), 3) := by decide +kernel
theorem dX6_seeks_222 : decode cX6_seeks 222 = .ok (.goto (-149), 3) := by decide +kernel
theorem dX6_seeks_225 : decode cX6_seeks 225 = .ok (.return_, 1) := by decide +kernel
theorem dX6_finds_0 : decode cX6_finds 0 = .ok (.aload_n 0, 1) := by decide +kernel
theorem dX6_finds_1 : decode cX6_finds 1 = .ok (.iconst 0, 1) := by decide +kernel
theorem dX6_finds_2 : decode cX6_finds 2 = .ok (.bipush 52, 2) := by decide +kernel
theorem dX6_finds_4 : decode cX6_finds 4 = .ok (.invokevirtual 43, 3) := by decide +kernel
theorem dX6_finds_7 : decode cX6_finds 7 = .ok (.aload_n 0, 1) := by decide +kernel
theorem dX6_finds_8 : decode cX6_finds 8 = .ok (.invokevirtual 102, 3) := by decide +kernel
theorem dX6_finds_11 : decode cX6_finds 11 = .ok (.return_, 1) := by decide +kernel
theorem dX6_mayWait_0 : decode cX6_mayWait 0 = .ok (.aload_n 0, 1) := by decide +kernel
theorem dX6_mayWait_1 : decode cX6_mayWait 1 = .ok (.invokevirtual 105, 3) := by decide +kernel
theorem dX6_mayWait_4 : decode cX6_mayWait 4 = .ok (.aload_n 0, 1) := by decide +kernel
theorem dX6_mayWait_5 : decode cX6_mayWait 5 = .ok (.getfield 86, 3) := by decide +kernel
theorem dX6_mayWait_8 : decode cX6_mayWait 8 = .ok (.iconst (-1), 1) := by decide +kernel
theorem dX6_mayWait_9 : decode cX6_mayWait 9 = .ok (.if_icmp .ne 5, 3) := by decide +kernel
theorem dX6_mayWait_12 : decode cX6_mayWait 12 = .ok (.iconst (-1), 1) := by decide +kernel
theorem dX6_mayWait_13 : decode cX6_mayWait 13 = .ok (.ireturn, 1) := by decide +kernel
theorem dX6_mayWait_14 : decode cX6_mayWait 14 = .ok (.aload_n 0, 1) := by decide +kernel
theorem dX6_mayWait_15 : decode cX6_mayWait 15 = .ok (.getfield 89, 3) := by decide +kernel
theorem dX6_mayWait_18 : decode cX6_mayWait 18 = .ok (.istore_n 1, 1) := by decide +kernel
theorem dX6_mayWait_19 : decode cX6_mayWait 19 = .ok (.iconst 0, 1) := by decide +kernel
theorem dX6_mayWait_20 : decode cX6_mayWait 20 = .ok (.istore_n 2, 1) := by decide +kernel
theorem dX6_mayWait_21 : decode cX6_mayWait 21 = .ok (.iconst 1, 1) := by decide +kernel
theorem dX6_mayWait_22 : decode cX6_mayWait 22 = .ok (.istore_n 3, 1) := by decide +kernel
theorem dX6_mayWait_23 : decode cX6_mayWait 23 = .ok (.iload_n 3, 1) := by decide +kernel
theorem dX6_mayWait_24 : decode cX6_mayWait 24 = .ok (.bipush 12, 2) := by decide +kernel
theorem dX6_mayWait_26 : decode cX6_mayWait 26 = .ok (.if_icmp .gt 53, 3) := by decide +kernel
theorem dX6_mayWait_29 : decode cX6_mayWait 29 = .ok (.aload_n 0, 1) := by decide +kernel
theorem dX6_mayWait_30 : decode cX6_mayWait 30 = .ok (.iconst 0, 1) := by decide +kernel
theorem dX6_mayWait_31 : decode cX6_mayWait 31 = .ok (.bipush 52, 2) := by decide +kernel
theorem dX6_mayWait_33 : decode cX6_mayWait 33 = .ok (.invokevirtual 43, 3) := by decide +kernel
theorem dX6_mayWait_36 : decode cX6_mayWait 36 = .ok (.aload_n 0, 1) := by decide +kernel
theorem dX6_mayWait_37 : decode cX6_mayWait 37 = .ok (.getfield 7, 3) := by decide +kernel
theorem dX6_mayWait_40 : decode cX6_mayWait 40 = .ok (.bipush 54, 2) := by decide +kernel
theorem dX6_mayWait_42 : decode cX6_mayWait 42 = .ok (.dup2, 1) := by decide +kernel
theorem dX6_mayWait_43 : decode cX6_mayWait 43 = .ok (.iaload, 1) := by decide +kernel
theorem dX6_mayWait_44 : decode cX6_mayWait 44 = .ok (.iload_n 3, 1) := by decide +kernel
theorem dX6_mayWait_45 : decode cX6_mayWait 45 = .ok (.iadd, 1) := by decide +kernel
theorem dX6_mayWait_46 : decode cX6_mayWait 46 = .ok (.iastore, 1) := by decide +kernel
theorem dX6_mayWait_47 : decode cX6_mayWait 47 = .ok (.aload_n 0, 1) := by decide +kernel
theorem dX6_mayWait_48 : decode cX6_mayWait 48 = .ok (.invokevirtual 102, 3) := by decide +kernel
theorem dX6_mayWait_51 : decode cX6_mayWait 51 = .ok (.aload_n 0, 1) := by decide +kernel
theorem dX6_mayWait_52 : decode cX6_mayWait 52 = .ok (.getfield 86, 3) := by decide +kernel
theorem dX6_mayWait_55 : decode cX6_mayWait 55 = .ok (.iconst (-1), 1) := by decide +kernel
theorem dX6_mayWait_56 : decode cX6_mayWait 56 = .ok (.if_icmp .eq 15, 3) := by decide +kernel
theorem dX6_mayWait_59 : decode cX6_mayWait 59 = .ok (.aload_n 0, 1) := by decide +kernel
theorem dX6_mayWait_60 : decode cX6_mayWait 60 = .ok (.getfield 89, 3) := by decide +kernel
theorem dX6_mayWait_63 : decode cX6_mayWait 63 = .ok (.iload_n 1, 1) := by decide +kernel
theorem dX6_mayWait_64 : decode cX6_mayWait 64 = .ok (.if_icmp .ne 7, 3) := by decide +kernel
theorem dX6_mayWait_67 : decode cX6_mayWait 67 = .ok (.iload_n 3, 1) := by decide +kernel
theorem dX6_mayWait_68 : decode cX6_mayWait 68 = .ok (.goto 4, 3) := by decide +kernel
theorem dX6_mayWait_71 : decode cX6_mayWait 71 = .ok (.iload_n 2, 1) := by decide +kernel
theorem dX6_mayWait_72 : decode cX6_mayWait 72 = .ok (.istore_n 2, 1) := by decide +kernel
theorem dX6_mayWait_73 : decode cX6_mayWait 73 = .ok (.iinc 3 1, 3) := by decide +kernel
theorem dX6_mayWait_76 : decode cX6_mayWait 76 = .ok (.goto (-53), 3) := by decide +kernel
theorem dX6_mayWait_79 : decode cX6_mayWait 79 = .ok (.iload_n 2, 1) := by decide +kernel
theorem dX6_mayWait_80 : decode cX6_mayWait 80 = .ok (.ireturn, 1) := by decide +kernel
theorem dX6_mayBeLate_0 : decode cX6_mayBeLate 0 = .ok (.aload_n 0, 1) := by decide +kernel
theorem dX6_mayBeLate_1 : decode cX6_mayBeLate 1 = .ok (.invokevirtual 105, 3) := by decide +kernel
theorem dX6_mayBeLate_4 : decode cX6_mayBeLate 4 = .ok (.aload_n 0, 1) := by decide +kernel
theorem dX6_mayBeLate_5 : decode cX6_mayBeLate 5 = .ok (.getfield 86, 3) := by decide +kernel
theorem dX6_mayBeLate_8 : decode cX6_mayBeLate 8 = .ok (.iconst (-1), 1) := by decide +kernel
theorem dX6_mayBeLate_9 : decode cX6_mayBeLate 9 = .ok (.if_icmp .ne 5, 3) := by decide +kernel
theorem dX6_mayBeLate_12 : decode cX6_mayBeLate 12 = .ok (.iconst (-1), 1) := by decide +kernel
theorem dX6_mayBeLate_13 : decode cX6_mayBeLate 13 = .ok (.ireturn, 1) := by decide +kernel
theorem dX6_mayBeLate_14 : decode cX6_mayBeLate 14 = .ok (.aload_n 0, 1) := by decide +kernel
theorem dX6_mayBeLate_15 : decode cX6_mayBeLate 15 = .ok (.getfield 89, 3) := by decide +kernel
theorem dX6_mayBeLate_18 : decode cX6_mayBeLate 18 = .ok (.istore_n 2, 1) := by decide +kernel
theorem dX6_mayBeLate_19 : decode cX6_mayBeLate 19 = .ok (.iconst 0, 1) := by decide +kernel
theorem dX6_mayBeLate_20 : decode cX6_mayBeLate 20 = .ok (.istore_n 3, 1) := by decide +kernel
theorem dX6_mayBeLate_21 : decode cX6_mayBeLate 21 = .ok (.iconst 1, 1) := by decide +kernel
theorem dX6_mayBeLate_22 : decode cX6_mayBeLate 22 = .ok (.istore 4, 2) := by decide +kernel
theorem dX6_mayBeLate_24 : decode cX6_mayBeLate 24 = .ok (.iload 4, 2) := by decide +kernel
theorem dX6_mayBeLate_26 : decode cX6_mayBeLate 26 = .ok (.bipush 12, 2) := by decide +kernel
theorem dX6_mayBeLate_28 : decode cX6_mayBeLate 28 = .ok (.if_icmp .gt 93, 3) := by decide +kernel
theorem dX6_mayBeLate_31 : decode cX6_mayBeLate 31 = .ok (.aload_n 0, 1) := by decide +kernel
theorem dX6_mayBeLate_32 : decode cX6_mayBeLate 32 = .ok (.iconst 0, 1) := by decide +kernel
theorem dX6_mayBeLate_33 : decode cX6_mayBeLate 33 = .ok (.bipush 52, 2) := by decide +kernel
theorem dX6_mayBeLate_35 : decode cX6_mayBeLate 35 = .ok (.invokevirtual 43, 3) := by decide +kernel
theorem dX6_mayBeLate_38 : decode cX6_mayBeLate 38 = .ok (.aload_n 0, 1) := by decide +kernel
theorem dX6_mayBeLate_39 : decode cX6_mayBeLate 39 = .ok (.getfield 7, 3) := by decide +kernel
theorem dX6_mayBeLate_42 : decode cX6_mayBeLate 42 = .ok (.bipush 59, 2) := by decide +kernel
theorem dX6_mayBeLate_44 : decode cX6_mayBeLate 44 = .ok (.iload_n 1, 1) := by decide +kernel
theorem dX6_mayBeLate_45 : decode cX6_mayBeLate 45 = .ok (.iadd, 1) := by decide +kernel
theorem dX6_mayBeLate_46 : decode cX6_mayBeLate 46 = .ok (.dup2, 1) := by decide +kernel
theorem dX6_mayBeLate_47 : decode cX6_mayBeLate 47 = .ok (.iaload, 1) := by decide +kernel
theorem dX6_mayBeLate_48 : decode cX6_mayBeLate 48 = .ok (.iload 4, 2) := by decide +kernel
theorem dX6_mayBeLate_50 : decode cX6_mayBeLate 50 = .ok (.iadd, 1) := by decide +kernel
theorem dX6_mayBeLate_51 : decode cX6_mayBeLate 51 = .ok (.iastore, 1) := by decide +kernel
theorem dX6_mayBeLate_52 : decode cX6_mayBeLate 52 = .ok (.aload_n 0, 1) := by decide +kernel
theorem dX6_mayBeLate_53 : decode cX6_mayBeLate 53 = .ok (.getfield 7, 3) := by decide +kernel
theorem dX6_mayBeLate_56 : decode cX6_mayBeLate 56 = .ok (.bipush 59, 2) := by decide +kernel
theorem dX6_mayBeLate_58 : decode cX6_mayBeLate 58 = .ok (.iload_n 1, 1) := by decide +kernel
theorem dX6_mayBeLate_59 : decode cX6_mayBeLate 59 = .ok (.iadd, 1) := by decide +kernel
theorem dX6_mayBeLate_60 : decode cX6_mayBeLate 60 = .ok (.iaload, 1) := by decide +kernel
theorem dX6_mayBeLate_61 : decode cX6_mayBeLate 61 = .ok (.bipush 99, 2) := by decide +kernel
theorem dX6_mayBeLate_63 : decode cX6_mayBeLate 63 = .ok (.if_icmp .gt 52, 3) := by decide +kernel
theorem dX6_mayBeLate_66 : decode cX6_mayBeLate 66 = .ok (.aload_n 0, 1) := by decide +kernel
theorem dX6_mayBeLate_67 : decode cX6_mayBeLate 67 = .ok (.bipush 52, 2) := by decide +kernel
theorem dX6_mayBeLate_69 : decode cX6_mayBeLate 69 = .ok (.aload_n 0, 1) := by decide +kernel
theorem dX6_mayBeLate_70 : decode cX6_mayBeLate 70 = .ok (.getfield 7, 3) := by decide +kernel
theorem dX6_mayBeLate_73 : decode cX6_mayBeLate 73 = .ok (.bipush 54, 2) := by decide +kernel
theorem dX6_mayBeLate_75 : decode cX6_mayBeLate 75 = .ok (.iaload, 1) := by decide +kernel
theorem dX6_mayBeLate_76 : decode cX6_mayBeLate 76 = .ok (.invokevirtual 62, 3) := by decide +kernel
theorem dX6_mayBeLate_79 : decode cX6_mayBeLate 79 = .ok (.aload_n 0, 1) := by decide +kernel
theorem dX6_mayBeLate_80 : decode cX6_mayBeLate 80 = .ok (.bipush 52, 2) := by decide +kernel
theorem dX6_mayBeLate_82 : decode cX6_mayBeLate 82 = .ok (.invokevirtual 58, 3) := by decide +kernel
theorem dX6_mayBeLate_85 : decode cX6_mayBeLate 85 = .ok (.if_icmp .lt 30, 3) := by decide +kernel
theorem dX6_mayBeLate_88 : decode cX6_mayBeLate 88 = .ok (.aload_n 0, 1) := by decide +kernel
theorem dX6_mayBeLate_89 : decode cX6_mayBeLate 89 = .ok (.invokevirtual 102, 3) := by decide +kernel
theorem dX6_mayBeLate_92 : decode cX6_mayBeLate 92 = .ok (.aload_n 0, 1) := by decide +kernel
theorem dX6_mayBeLate_93 : decode cX6_mayBeLate 93 = .ok (.getfield 86, 3) := by decide +kernel
theorem dX6_mayBeLate_96 : decode cX6_mayBeLate 96 = .ok (.iconst (-1), 1) := by decide +kernel
theorem dX6_mayBeLate_97 : decode cX6_mayBeLate 97 = .ok (.if_icmp .eq 16, 3) := by decide +kernel
theorem dX6_mayBeLate_100 : decode cX6_mayBeLate 100 = .ok (.aload_n 0, 1) := by decide +kernel
theorem dX6_mayBeLate_101 : decode cX6_mayBeLate 101 = .ok (.getfield 89, 3) := by decide +kernel
theorem dX6_mayBeLate_104 : decode cX6_mayBeLate 104 = .ok (.iload_n 2, 1) := by decide +kernel
theorem dX6_mayBeLate_105 : decode cX6_mayBeLate 105 = .ok (.if_icmp .ne 8, 3) := by decide +kernel
theorem dX6_mayBeLate_108 : decode cX6_mayBeLate 108 = .ok (.iload 4, 2) := by decide +kernel
end
section
theorem dX6_mayBeLate_110 : decode cX6_mayBeLate 110 = .ok (.goto 4, 3) := by decide +kernel
theorem dX6_mayBeLate_113 : decode cX6_mayBeLate 113 = .ok (.iload_n 3, 1) := by decide +kernel
theorem dX6_mayBeLate_114 : decode cX6_mayBeLate 114 = .ok (.istore_n 3, 1) := by decide +kernel
theorem dX6_mayBeLate_115 : decode cX6_mayBeLate 115 = .ok (.iinc 4 1, 3) := by decide +kernel
theorem dX6_mayBeLate_118 : decode cX6_mayBeLate 118 = .ok (.goto (-94), 3) := by decide +kernel
theorem dX6_mayBeLate_121 : decode cX6_mayBeLate 121 = .ok (.iload_n 3, 1) := by decide +kernel
theorem dX6_mayBeLate_122 : decode cX6_mayBeLate 122 = .ok (.ireturn, 1) := by decide +kernel
theorem dX6_joints_0 : decode cX6_joints 0 = .ok (.iconst 0, 1) := by decide +kernel
theorem dX6_joints_1 : decode cX6_joints 1 = .ok (.istore_n 1, 1) := by decide +kernel
theorem dX6_joints_2 : decode cX6_joints 2 = .ok (.iconst 0, 1) := by decide +kernel
theorem dX6_joints_3 : decode cX6_joints 3 = .ok (.istore_n 2, 1) := by decide +kernel
theorem dX6_joints_4 : decode cX6_joints 4 = .ok (.iload_n 2, 1) := by decide +kernel
theorem dX6_joints_5 : decode cX6_joints 5 = .ok (.bipush 27, 2) := by decide +kernel
theorem dX6_joints_7 : decode cX6_joints 7 = .ok (.if_icmp .ge 26, 3) := by decide +kernel
theorem dX6_joints_10 : decode cX6_joints 10 = .ok (.iload_n 1, 1) := by decide +kernel
theorem dX6_joints_11 : decode cX6_joints 11 = .ok (.aload_n 0, 1) := by decide +kernel
theorem dX6_joints_12 : decode cX6_joints 12 = .ok (.iconst 0, 1) := by decide +kernel
theorem dX6_joints_13 : decode cX6_joints 13 = .ok (.iload_n 2, 1) := by decide +kernel
theorem dX6_joints_14 : decode cX6_joints 14 = .ok (.invokevirtual 73, 3) := by decide +kernel
theorem dX6_joints_17 : decode cX6_joints 17 = .ok (.ifCond .eq 7, 3) := by decide +kernel
theorem dX6_joints_20 : decode cX6_joints 20 = .ok (.iconst 1, 1) := by decide +kernel
theorem dX6_joints_21 : decode cX6_joints 21 = .ok (.goto 4, 3) := by decide +kernel
theorem dX6_joints_24 : decode cX6_joints 24 = .ok (.iconst 0, 1) := by decide +kernel
theorem dX6_joints_25 : decode cX6_joints 25 = .ok (.iadd, 1) := by decide +kernel
theorem dX6_joints_26 : decode cX6_joints 26 = .ok (.istore_n 1, 1) := by decide +kernel
theorem dX6_joints_27 : decode cX6_joints 27 = .ok (.iinc 2 1, 3) := by decide +kernel
theorem dX6_joints_30 : decode cX6_joints 30 = .ok (.goto (-26), 3) := by decide +kernel
theorem dX6_joints_33 : decode cX6_joints 33 = .ok (.iload_n 1, 1) := by decide +kernel
theorem dX6_joints_34 : decode cX6_joints 34 = .ok (.ireturn, 1) := by decide +kernel
theorem dX6_can_0 : decode cX6_can 0 = .ok (.iconst 0, 1) := by decide +kernel
theorem dX6_can_1 : decode cX6_can 1 = .ok (.istore_n 1, 1) := by decide +kernel
theorem dX6_can_2 : decode cX6_can 2 = .ok (.iconst 0, 1) := by decide +kernel
theorem dX6_can_3 : decode cX6_can 3 = .ok (.istore_n 2, 1) := by decide +kernel
theorem dX6_can_4 : decode cX6_can 4 = .ok (.iload_n 2, 1) := by decide +kernel
theorem dX6_can_5 : decode cX6_can 5 = .ok (.aload_n 0, 1) := by decide +kernel
theorem dX6_can_6 : decode cX6_can 6 = .ok (.invokevirtual 46, 3) := by decide +kernel
theorem dX6_can_9 : decode cX6_can 9 = .ok (.if_icmp .ge 29, 3) := by decide +kernel
theorem dX6_can_12 : decode cX6_can 12 = .ok (.iload_n 1, 1) := by decide +kernel
theorem dX6_can_13 : decode cX6_can 13 = .ok (.aload_n 0, 1) := by decide +kernel
theorem dX6_can_14 : decode cX6_can 14 = .ok (.iconst 0, 1) := by decide +kernel
theorem dX6_can_15 : decode cX6_can 15 = .ok (.iload_n 2, 1) := by decide +kernel
theorem dX6_can_16 : decode cX6_can 16 = .ok (.invokevirtual 67, 3) := by decide +kernel
theorem dX6_can_19 : decode cX6_can 19 = .ok (.iconst (-1), 1) := by decide +kernel
theorem dX6_can_20 : decode cX6_can 20 = .ok (.if_icmp .ne 7, 3) := by decide +kernel
theorem dX6_can_23 : decode cX6_can 23 = .ok (.iconst 0, 1) := by decide +kernel
theorem dX6_can_24 : decode cX6_can 24 = .ok (.goto 6, 3) := by decide +kernel
theorem dX6_can_27 : decode cX6_can 27 = .ok (.iconst 1, 1) := by decide +kernel
theorem dX6_can_28 : decode cX6_can 28 = .ok (.iload_n 2, 1) := by decide +kernel
theorem dX6_can_29 : decode cX6_can 29 = .ok (.ishl, 1) := by decide +kernel
theorem dX6_can_30 : decode cX6_can 30 = .ok (.ior, 1) := by decide +kernel
theorem dX6_can_31 : decode cX6_can 31 = .ok (.istore_n 1, 1) := by decide +kernel
theorem dX6_can_32 : decode cX6_can 32 = .ok (.iinc 2 1, 3) := by decide +kernel
theorem dX6_can_35 : decode cX6_can 35 = .ok (.goto (-31), 3) := by decide +kernel
theorem dX6_can_38 : decode cX6_can 38 = .ok (.iload_n 1, 1) := by decide +kernel
theorem dX6_can_39 : decode cX6_can 39 = .ok (.ireturn, 1) := by decide +kernel
theorem dX6_wrong_0 : decode cX6_wrong 0 = .ok (.iconst 0, 1) := by decide +kernel
theorem dX6_wrong_1 : decode cX6_wrong 1 = .ok (.istore_n 1, 1) := by decide +kernel
theorem dX6_wrong_2 : decode cX6_wrong 2 = .ok (.iload_n 1, 1) := by decide +kernel
theorem dX6_wrong_3 : decode cX6_wrong 3 = .ok (.aload_n 0, 1) := by decide +kernel
theorem dX6_wrong_4 : decode cX6_wrong 4 = .ok (.getfield 108, 3) := by decide +kernel
theorem dX6_wrong_7 : decode cX6_wrong 7 = .ok (.if_icmp .ge 46, 3) := by decide +kernel
theorem dX6_wrong_10 : decode cX6_wrong 10 = .ok (.aload_n 0, 1) := by decide +kernel
theorem dX6_wrong_11 : decode cX6_wrong 11 = .ok (.iconst 0, 1) := by decide +kernel
theorem dX6_wrong_12 : decode cX6_wrong 12 = .ok (.aload_n 0, 1) := by decide +kernel
theorem dX6_wrong_13 : decode cX6_wrong 13 = .ok (.getfield 20, 3) := by decide +kernel
theorem dX6_wrong_16 : decode cX6_wrong 16 = .ok (.iload_n 1, 1) := by decide +kernel
theorem dX6_wrong_17 : decode cX6_wrong 17 = .ok (.iaload, 1) := by decide +kernel
theorem dX6_wrong_18 : decode cX6_wrong 18 = .ok (.invokevirtual 70, 3) := by decide +kernel
theorem dX6_wrong_21 : decode cX6_wrong 21 = .ok (.iconst (-1), 1) := by decide +kernel
theorem dX6_wrong_22 : decode cX6_wrong 22 = .ok (.if_icmp .eq 23, 3) := by decide +kernel
theorem dX6_wrong_25 : decode cX6_wrong 25 = .ok (.aload_n 0, 1) := by decide +kernel
theorem dX6_wrong_26 : decode cX6_wrong 26 = .ok (.iconst 0, 1) := by decide +kernel
theorem dX6_wrong_27 : decode cX6_wrong 27 = .ok (.aload_n 0, 1) := by decide +kernel
theorem dX6_wrong_28 : decode cX6_wrong 28 = .ok (.getfield 20, 3) := by decide +kernel
theorem dX6_wrong_31 : decode cX6_wrong 31 = .ok (.iload_n 1, 1) := by decide +kernel
theorem dX6_wrong_32 : decode cX6_wrong 32 = .ok (.iaload, 1) := by decide +kernel
theorem dX6_wrong_33 : decode cX6_wrong 33 = .ok (.invokevirtual 73, 3) := by decide +kernel
theorem dX6_wrong_36 : decode cX6_wrong 36 = .ok (.aload_n 0, 1) := by decide +kernel
theorem dX6_wrong_37 : decode cX6_wrong 37 = .ok (.getfield 23, 3) := by decide +kernel
theorem dX6_wrong_40 : decode cX6_wrong 40 = .ok (.iload_n 1, 1) := by decide +kernel
theorem dX6_wrong_41 : decode cX6_wrong 41 = .ok (.baload, 1) := by decide +kernel
theorem dX6_wrong_42 : decode cX6_wrong 42 = .ok (.if_icmp .eq 5, 3) := by decide +kernel
theorem dX6_wrong_45 : decode cX6_wrong 45 = .ok (.iload_n 1, 1) := by decide +kernel
theorem dX6_wrong_46 : decode cX6_wrong 46 = .ok (.ireturn, 1) := by decide +kernel
theorem dX6_wrong_47 : decode cX6_wrong 47 = .ok (.iinc 1 1, 3) := by decide +kernel
theorem dX6_wrong_50 : decode cX6_wrong 50 = .ok (.goto (-48), 3) := by decide +kernel
theorem dX6_wrong_53 : decode cX6_wrong 53 = .ok (.iconst (-1), 1) := by decide +kernel
theorem dX6_wrong_54 : decode cX6_wrong 54 = .ok (.ireturn, 1) := by decide +kernel
theorem dX6_ofBest_0 : decode cX6_ofBest 0 = .ok (.aload_n 0, 1) := by decide +kernel
theorem dX6_ofBest_1 : decode cX6_ofBest 1 = .ok (.invokevirtual 105, 3) := by decide +kernel
theorem dX6_ofBest_4 : decode cX6_ofBest 4 = .ok (.iload_n 1, 1) := by decide +kernel
theorem dX6_ofBest_5 : decode cX6_ofBest 5 = .ok (.bipush 13, 2) := by decide +kernel
theorem dX6_ofBest_7 : decode cX6_ofBest 7 = .ok (.if_icmp .ne 10, 3) := by decide +kernel
theorem dX6_ofBest_10 : decode cX6_ofBest 10 = .ok (.aload_n 0, 1) := by decide +kernel
theorem dX6_ofBest_11 : decode cX6_ofBest 11 = .ok (.getfield 89, 3) := by decide +kernel
theorem dX6_ofBest_14 : decode cX6_ofBest 14 = .ok (.goto 7, 3) := by decide +kernel
theorem dX6_ofBest_17 : decode cX6_ofBest 17 = .ok (.aload_n 0, 1) := by decide +kernel
theorem dX6_ofBest_18 : decode cX6_ofBest 18 = .ok (.getfield 92, 3) := by decide +kernel
theorem dX6_ofBest_21 : decode cX6_ofBest 21 = .ok (.ireturn, 1) := by decide +kernel
theorem dX6_told_0 : decode cX6_told 0 = .ok (.iload_n 1, 1) := by decide +kernel
theorem dX6_told_1 : decode cX6_told 1 = .ok (.tableswitch 223 0 19 #[95, 102, 109, 116, 123, 141, 146, 151, 158, 165, 173, 178, 185, 190, 190, 196, 201, 208, 213, 218], 95) := by decide +kernel
theorem dX6_told_96 : decode cX6_told 96 = .ok (.aload_n 0, 1) := by decide +kernel
theorem dX6_told_97 : decode cX6_told 97 = .ok (.getfield 7, 3) := by decide +kernel
theorem dX6_told_100 : decode cX6_told 100 = .ok (.iconst 0, 1) := by decide +kernel
theorem dX6_told_101 : decode cX6_told 101 = .ok (.iaload, 1) := by decide +kernel
theorem dX6_told_102 : decode cX6_told 102 = .ok (.ireturn, 1) := by decide +kernel
theorem dX6_told_103 : decode cX6_told 103 = .ok (.aload_n 0, 1) := by decide +kernel
theorem dX6_told_104 : decode cX6_told 104 = .ok (.getfield 7, 3) := by decide +kernel
theorem dX6_told_107 : decode cX6_told 107 = .ok (.iconst 1, 1) := by decide +kernel
theorem dX6_told_108 : decode cX6_told 108 = .ok (.iaload, 1) := by decide +kernel
theorem dX6_told_109 : decode cX6_told 109 = .ok (.ireturn, 1) := by decide +kernel
theorem dX6_told_110 : decode cX6_told 110 = .ok (.aload_n 0, 1) := by decide +kernel
theorem dX6_told_111 : decode cX6_told 111 = .ok (.getfield 7, 3) := by decide +kernel
theorem dX6_told_114 : decode cX6_told 114 = .ok (.iconst 2, 1) := by decide +kernel
theorem dX6_told_115 : decode cX6_told 115 = .ok (.iaload, 1) := by decide +kernel
theorem dX6_told_116 : decode cX6_told 116 = .ok (.ireturn, 1) := by decide +kernel
theorem dX6_told_117 : decode cX6_told 117 = .ok (.aload_n 0, 1) := by decide +kernel
theorem dX6_told_118 : decode cX6_told 118 = .ok (.getfield 7, 3) := by decide +kernel
theorem dX6_told_121 : decode cX6_told 121 = .ok (.iconst 3, 1) := by decide +kernel
theorem dX6_told_122 : decode cX6_told 122 = .ok (.iaload, 1) := by decide +kernel
theorem dX6_told_123 : decode cX6_told 123 = .ok (.ireturn, 1) := by decide +kernel
theorem dX6_told_124 : decode cX6_told 124 = .ok (.aload_n 0, 1) := by decide +kernel
theorem dX6_told_125 : decode cX6_told 125 = .ok (.iconst 0, 1) := by decide +kernel
theorem dX6_told_126 : decode cX6_told 126 = .ok (.aload_n 0, 1) := by decide +kernel
theorem dX6_told_127 : decode cX6_told 127 = .ok (.getfield 7, 3) := by decide +kernel
theorem dX6_told_130 : decode cX6_told 130 = .ok (.iconst 2, 1) := by decide +kernel
theorem dX6_told_131 : decode cX6_told 131 = .ok (.iaload, 1) := by decide +kernel
theorem dX6_told_132 : decode cX6_told 132 = .ok (.invokevirtual 62, 3) := by decide +kernel
theorem dX6_told_135 : decode cX6_told 135 = .ok (.aload_n 0, 1) := by decide +kernel
theorem dX6_told_136 : decode cX6_told 136 = .ok (.iconst 0, 1) := by decide +kernel
theorem dX6_told_137 : decode cX6_told 137 = .ok (.invokevirtual 58, 3) := by decide +kernel
theorem dX6_told_140 : decode cX6_told 140 = .ok (.isub, 1) := by decide +kernel
theorem dX6_told_141 : decode cX6_told 141 = .ok (.ireturn, 1) := by decide +kernel
theorem dX6_told_142 : decode cX6_told 142 = .ok (.aload_n 0, 1) := by decide +kernel
theorem dX6_told_143 : decode cX6_told 143 = .ok (.invokevirtual 111, 3) := by decide +kernel
theorem dX6_told_146 : decode cX6_told 146 = .ok (.ireturn, 1) := by decide +kernel
theorem dX6_told_147 : decode cX6_told 147 = .ok (.aload_n 0, 1) := by decide +kernel
theorem dX6_told_148 : decode cX6_told 148 = .ok (.invokevirtual 114, 3) := by decide +kernel
theorem dX6_told_151 : decode cX6_told 151 = .ok (.ireturn, 1) := by decide +kernel
theorem dX6_told_152 : decode cX6_told 152 = .ok (.aload_n 0, 1) := by decide +kernel
theorem dX6_told_153 : decode cX6_told 153 = .ok (.getfield 7, 3) := by decide +kernel
theorem dX6_told_156 : decode cX6_told 156 = .ok (.iconst 4, 1) := by decide +kernel
theorem dX6_told_157 : decode cX6_told 157 = .ok (.iaload, 1) := by decide +kernel
theorem dX6_told_158 : decode cX6_told 158 = .ok (.ireturn, 1) := by decide +kernel
theorem dX6_told_159 : decode cX6_told 159 = .ok (.aload_n 0, 1) := by decide +kernel
theorem dX6_told_160 : decode cX6_told 160 = .ok (.getfield 7, 3) := by decide +kernel
theorem dX6_told_163 : decode cX6_told 163 = .ok (.iconst 5, 1) := by decide +kernel
theorem dX6_told_164 : decode cX6_told 164 = .ok (.iaload, 1) := by decide +kernel
theorem dX6_told_165 : decode cX6_told 165 = .ok (.ireturn, 1) := by decide +kernel
theorem dX6_told_166 : decode cX6_told 166 = .ok (.aload_n 0, 1) := by decide +kernel
theorem dX6_told_167 : decode cX6_told 167 = .ok (.getfield 7, 3) := by decide +kernel
theorem dX6_told_170 : decode cX6_told 170 = .ok (.bipush 6, 2) := by decide +kernel
theorem dX6_told_172 : decode cX6_told 172 = .ok (.iaload, 1) := by decide +kernel
theorem dX6_told_173 : decode cX6_told 173 = .ok (.ireturn, 1) := by decide +kernel
theorem dX6_told_174 : decode cX6_told 174 = .ok (.aload_n 0, 1) := by decide +kernel
theorem dX6_told_175 : decode cX6_told 175 = .ok (.invokevirtual 117, 3) := by decide +kernel
theorem dX6_told_178 : decode cX6_told 178 = .ok (.ireturn, 1) := by decide +kernel
theorem dX6_told_179 : decode cX6_told 179 = .ok (.aload_n 0, 1) := by decide +kernel
theorem dX6_told_180 : decode cX6_told 180 = .ok (.iconst 0, 1) := by decide +kernel
theorem dX6_told_181 : decode cX6_told 181 = .ok (.iconst 0, 1) := by decide +kernel
theorem dX6_told_182 : decode cX6_told 182 = .ok (.invokevirtual 82, 3) := by decide +kernel
theorem dX6_told_185 : decode cX6_told 185 = .ok (.ireturn, 1) := by decide +kernel
theorem dX6_told_186 : decode cX6_told 186 = .ok (.aload_n 0, 1) := by decide +kernel
theorem dX6_told_187 : decode cX6_told 187 = .ok (.invokevirtual 120, 3) := by decide +kernel
theorem dX6_told_190 : decode cX6_told 190 = .ok (.ireturn, 1) := by decide +kernel
theorem dX6_told_191 : decode cX6_told 191 = .ok (.aload_n 0, 1) := by decide +kernel
theorem dX6_told_192 : decode cX6_told 192 = .ok (.iload_n 1, 1) := by decide +kernel
theorem dX6_told_193 : decode cX6_told 193 = .ok (.invokevirtual 123, 3) := by decide +kernel
theorem dX6_told_196 : decode cX6_told 196 = .ok (.ireturn, 1) := by decide +kernel
theorem dX6_told_197 : decode cX6_told 197 = .ok (.aload_n 0, 1) := by decide +kernel
theorem dX6_told_198 : decode cX6_told 198 = .ok (.invokevirtual 126, 3) := by decide +kernel
theorem dX6_told_201 : decode cX6_told 201 = .ok (.ireturn, 1) := by decide +kernel
theorem dX6_told_202 : decode cX6_told 202 = .ok (.aload_n 0, 1) := by decide +kernel
theorem dX6_told_203 : decode cX6_told 203 = .ok (.iconst 0, 1) := by decide +kernel
theorem dX6_told_204 : decode cX6_told 204 = .ok (.iconst 1, 1) := by decide +kernel
theorem dX6_told_205 : decode cX6_told 205 = .ok (.invokevirtual 82, 3) := by decide +kernel
theorem dX6_told_208 : decode cX6_told 208 = .ok (.ireturn, 1) := by decide +kernel
theorem dX6_told_209 : decode cX6_told 209 = .ok (.aload_n 0, 1) := by decide +kernel
theorem dX6_told_210 : decode cX6_told 210 = .ok (.getfield 108, 3) := by decide +kernel
theorem dX6_told_213 : decode cX6_told 213 = .ok (.ireturn, 1) := by decide +kernel
theorem dX6_told_214 : decode cX6_told 214 = .ok (.aload_n 0, 1) := by decide +kernel
theorem dX6_told_215 : decode cX6_told 215 = .ok (.invokevirtual 129, 3) := by decide +kernel
theorem dX6_told_218 : decode cX6_told 218 = .ok (.ireturn, 1) := by decide +kernel
theorem dX6_told_219 : decode cX6_told 219 = .ok (.aload_n 0, 1) := by decide +kernel
theorem dX6_told_220 : decode cX6_told 220 = .ok (.getfield 39, 3) := by decide +kernel
theorem dX6_told_223 : decode cX6_told 223 = .ok (.ireturn, 1) := by decide +kernel
theorem dX6_told_224 : decode cX6_told 224 = .ok (.ldc 132, 2) := by decide +kernel
theorem dX6_told_226 : decode cX6_told 226 = .ok (.ireturn, 1) := by decide +kernel
theorem dX6_harmBehind_0 : decode cX6_harmBehind 0 = .ok (.aload_n 0, 1) := by decide +kernel
theorem dX6_harmBehind_1 : decode cX6_harmBehind 1 = .ok (.iconst 0, 1) := by decide +kernel
theorem dX6_harmBehind_2 : decode cX6_harmBehind 2 = .ok (.bipush 52, 2) := by decide +kernel
theorem dX6_harmBehind_4 : decode cX6_harmBehind 4 = .ok (.invokevirtual 43, 3) := by decide +kernel
theorem dX6_harmBehind_7 : decode cX6_harmBehind 7 = .ok (.aload_n 0, 1) := by decide +kernel
theorem dX6_harmBehind_8 : decode cX6_harmBehind 8 = .ok (.bipush 52, 2) := by decide +kernel
theorem dX6_harmBehind_10 : decode cX6_harmBehind 10 = .ok (.iload_n 1, 1) := by decide +kernel
theorem dX6_harmBehind_11 : decode cX6_harmBehind 11 = .ok (.invokevirtual 99, 3) := by decide +kernel
theorem dX6_harmBehind_14 : decode cX6_harmBehind 14 = .ok (.ifCond .eq 13, 3) := by decide +kernel
theorem dX6_harmBehind_17 : decode cX6_harmBehind 17 = .ok (.aload_n 0, 1) := by decide +kernel
theorem dX6_harmBehind_18 : decode cX6_harmBehind 18 = .ok (.bipush 52, 2) := by decide +kernel
theorem dX6_harmBehind_20 : decode cX6_harmBehind 20 = .ok (.iconst 0, 1) := by decide +kernel
theorem dX6_harmBehind_21 : decode cX6_harmBehind 21 = .ok (.invokevirtual 82, 3) := by decide +kernel
theorem dX6_harmBehind_24 : decode cX6_harmBehind 24 = .ok (.goto 4, 3) := by decide +kernel
theorem dX6_harmBehind_27 : decode cX6_harmBehind 27 = .ok (.iconst (-1), 1) := by decide +kernel
theorem dX6_harmBehind_28 : decode cX6_harmBehind 28 = .ok (.ireturn, 1) := by decide +kernel
theorem dX6_cell_0 : decode cX6_cell 0 = .ok (.aload_n 0, 1) := by decide +kernel
theorem dX6_cell_1 : decode cX6_cell 1 = .ok (.iload_n 1, 1) := by decide +kernel
theorem dX6_cell_2 : decode cX6_cell 2 = .ok (.invokevirtual 133, 3) := by decide +kernel
theorem dX6_cell_5 : decode cX6_cell 5 = .ok (.ifCond .ne 6, 3) := by decide +kernel
theorem dX6_cell_8 : decode cX6_cell 8 = .ok (.ldc 137, 2) := by decide +kernel
theorem dX6_cell_10 : decode cX6_cell 10 = .ok (.ireturn, 1) := by decide +kernel
theorem dX6_cell_11 : decode cX6_cell 11 = .ok (.iload_n 2, 1) := by decide +kernel
theorem dX6_cell_12 : decode cX6_cell 12 = .ok (.tableswitch 79 0 4 #[36, 46, 56, 66, 73], 36) := by decide +kernel
theorem dX6_cell_48 : decode cX6_cell 48 = .ok (.aload_n 0, 1) := by decide +kernel
theorem dX6_cell_49 : decode cX6_cell 49 = .ok (.getfield 7, 3) := by decide +kernel
theorem dX6_cell_52 : decode cX6_cell 52 = .ok (.bipush 25, 2) := by decide +kernel
theorem dX6_cell_54 : decode cX6_cell 54 = .ok (.iload_n 1, 1) := by decide +kernel
theorem dX6_cell_55 : decode cX6_cell 55 = .ok (.iadd, 1) := by decide +kernel
theorem dX6_cell_56 : decode cX6_cell 56 = .ok (.iaload, 1) := by decide +kernel
theorem dX6_cell_57 : decode cX6_cell 57 = .ok (.ireturn, 1) := by decide +kernel
theorem dX6_cell_58 : decode cX6_cell 58 = .ok (.aload_n 0, 1) := by decide +kernel
theorem dX6_cell_59 : decode cX6_cell 59 = .ok (.getfield 7, 3) := by decide +kernel
theorem dX6_cell_62 : decode cX6_cell 62 = .ok (.bipush 34, 2) := by decide +kernel
theorem dX6_cell_64 : decode cX6_cell 64 = .ok (.iload_n 1, 1) := by decide +kernel
theorem dX6_cell_65 : decode cX6_cell 65 = .ok (.iadd, 1) := by decide +kernel
theorem dX6_cell_66 : decode cX6_cell 66 = .ok (.iaload, 1) := by decide +kernel
theorem dX6_cell_67 : decode cX6_cell 67 = .ok (.ireturn, 1) := by decide +kernel
theorem dX6_cell_68 : decode cX6_cell 68 = .ok (.aload_n 0, 1) := by decide +kernel
theorem dX6_cell_69 : decode cX6_cell 69 = .ok (.getfield 7, 3) := by decide +kernel
theorem dX6_cell_72 : decode cX6_cell 72 = .ok (.bipush 43, 2) := by decide +kernel
theorem dX6_cell_74 : decode cX6_cell 74 = .ok (.iload_n 1, 1) := by decide +kernel
theorem dX6_cell_75 : decode cX6_cell 75 = .ok (.iadd, 1) := by decide +kernel
theorem dX6_cell_76 : decode cX6_cell 76 = .ok (.iaload, 1) := by decide +kernel
theorem dX6_cell_77 : decode cX6_cell 77 = .ok (.ireturn, 1) := by decide +kernel
theorem dX6_cell_78 : decode cX6_cell 78 = .ok (.aload_n 0, 1) := by decide +kernel
theorem dX6_cell_79 : decode cX6_cell 79 = .ok (.iconst 0, 1) := by decide +kernel
theorem dX6_cell_80 : decode cX6_cell 80 = .ok (.iload_n 1, 1) := by decide +kernel
theorem dX6_cell_81 : decode cX6_cell 81 = .ok (.invokevirtual 67, 3) := by decide +kernel
theorem dX6_cell_84 : decode cX6_cell 84 = .ok (.ireturn, 1) := by decide +kernel
theorem dX6_cell_85 : decode cX6_cell 85 = .ok (.aload_n 0, 1) := by decide +kernel
theorem dX6_cell_86 : decode cX6_cell 86 = .ok (.iload_n 1, 1) := by decide +kernel
theorem dX6_cell_87 : decode cX6_cell 87 = .ok (.invokevirtual 138, 3) := by decide +kernel
theorem dX6_cell_90 : decode cX6_cell 90 = .ok (.ireturn, 1) := by decide +kernel
theorem dX6_cell_91 : decode cX6_cell 91 = .ok (.ldc 132, 2) := by decide +kernel
theorem dX6_cell_93 : decode cX6_cell 93 = .ok (.ireturn, 1) := by decide +kernel
theorem dX6_edge_0 : decode cX6_edge 0 = .ok (.aload_n 0, 1) := by decide +kernel
theorem dX6_edge_1 : decode cX6_edge 1 = .ok (.iconst 0, 1) := by decide +kernel
theorem dX6_edge_2 : decode cX6_edge 2 = .ok (.iload_n 1, 1) := by decide +kernel
theorem dX6_edge_3 : decode cX6_edge 3 = .ok (.invokevirtual 70, 3) := by decide +kernel
theorem dX6_edge_6 : decode cX6_edge 6 = .ok (.iconst (-1), 1) := by decide +kernel
theorem dX6_edge_7 : decode cX6_edge 7 = .ok (.if_icmp .ne 6, 3) := by decide +kernel
theorem dX6_edge_10 : decode cX6_edge 10 = .ok (.ldc 137, 2) := by decide +kernel
theorem dX6_edge_12 : decode cX6_edge 12 = .ok (.ireturn, 1) := by decide +kernel
theorem dX6_edge_13 : decode cX6_edge 13 = .ok (.iload_n 2, 1) := by decide +kernel
theorem dX6_edge_14 : decode cX6_edge 14 = .ok (.tableswitch 62 0 2 #[26, 41, 56], 26) := by decide +kernel
theorem dX6_edge_40 : decode cX6_edge 40 = .ok (.aload_n 0, 1) := by decide +kernel
theorem dX6_edge_41 : decode cX6_edge 41 = .ok (.iconst 0, 1) := by decide +kernel
theorem dX6_edge_42 : decode cX6_edge 42 = .ok (.iload_n 1, 1) := by decide +kernel
theorem dX6_edge_43 : decode cX6_edge 43 = .ok (.invokevirtual 76, 3) := by decide +kernel
theorem dX6_edge_46 : decode cX6_edge 46 = .ok (.ifCond .eq 7, 3) := by decide +kernel
theorem dX6_edge_49 : decode cX6_edge 49 = .ok (.iconst 1, 1) := by decide +kernel
theorem dX6_edge_50 : decode cX6_edge 50 = .ok (.goto 4, 3) := by decide +kernel
theorem dX6_edge_53 : decode cX6_edge 53 = .ok (.iconst 0, 1) := by decide +kernel
theorem dX6_edge_54 : decode cX6_edge 54 = .ok (.ireturn, 1) := by decide +kernel
theorem dX6_edge_55 : decode cX6_edge 55 = .ok (.aload_n 0, 1) := by decide +kernel
theorem dX6_edge_56 : decode cX6_edge 56 = .ok (.iconst 0, 1) := by decide +kernel
theorem dX6_edge_57 : decode cX6_edge 57 = .ok (.iload_n 1, 1) := by decide +kernel
theorem dX6_edge_58 : decode cX6_edge 58 = .ok (.invokevirtual 73, 3) := by decide +kernel
theorem dX6_edge_61 : decode cX6_edge 61 = .ok (.ifCond .eq 7, 3) := by decide +kernel
theorem dX6_edge_64 : decode cX6_edge 64 = .ok (.iconst 1, 1) := by decide +kernel
theorem dX6_edge_65 : decode cX6_edge 65 = .ok (.goto 4, 3) := by decide +kernel
theorem dX6_edge_68 : decode cX6_edge 68 = .ok (.iconst 0, 1) := by decide +kernel
theorem dX6_edge_69 : decode cX6_edge 69 = .ok (.ireturn, 1) := by decide +kernel
theorem dX6_edge_70 : decode cX6_edge 70 = .ok (.aload_n 0, 1) := by decide +kernel
theorem dX6_edge_71 : decode cX6_edge 71 = .ok (.iload_n 1, 1) := by decide +kernel
theorem dX6_edge_72 : decode cX6_edge 72 = .ok (.invokevirtual 79, 3) := by decide +kernel
theorem dX6_edge_75 : decode cX6_edge 75 = .ok (.ireturn, 1) := by decide +kernel
theorem dX6_edge_76 : decode cX6_edge 76 = .ok (.ldc 132, 2) := by decide +kernel
theorem dX6_edge_78 : decode cX6_edge 78 = .ok (.ireturn, 1) := by decide +kernel
theorem dX6_truckAt_0 : decode cX6_truckAt 0 = .ok (.aload_n 0, 1) := by decide +kernel
theorem dX6_truckAt_1 : decode cX6_truckAt 1 = .ok (.iload_n 1, 1) := by decide +kernel
theorem dX6_truckAt_2 : decode cX6_truckAt 2 = .ok (.invokevirtual 141, 3) := by decide +kernel
theorem dX6_truckAt_5 : decode cX6_truckAt 5 = .ok (.ifCond .ne 6, 3) := by decide +kernel
theorem dX6_truckAt_8 : decode cX6_truckAt 8 = .ok (.ldc 137, 2) := by decide +kernel
theorem dX6_truckAt_10 : decode cX6_truckAt 10 = .ok (.ireturn, 1) := by decide +kernel
theorem dX6_truckAt_11 : decode cX6_truckAt 11 = .ok (.iload_n 2, 1) := by decide +kernel
theorem dX6_truckAt_12 : decode cX6_truckAt 12 = .ok (.tableswitch 54 0 2 #[28, 38, 48], 28) := by decide +kernel
theorem dX6_truckAt_40 : decode cX6_truckAt 40 = .ok (.aload_n 0, 1) := by decide +kernel
theorem dX6_truckAt_41 : decode cX6_truckAt 41 = .ok (.getfield 7, 3) := by decide +kernel
theorem dX6_truckAt_44 : decode cX6_truckAt 44 = .ok (.bipush 7, 2) := by decide +kernel
theorem dX6_truckAt_46 : decode cX6_truckAt 46 = .ok (.iload_n 1, 1) := by decide +kernel
theorem dX6_truckAt_47 : decode cX6_truckAt 47 = .ok (.iadd, 1) := by decide +kernel
theorem dX6_truckAt_48 : decode cX6_truckAt 48 = .ok (.iaload, 1) := by decide +kernel
theorem dX6_truckAt_49 : decode cX6_truckAt 49 = .ok (.ireturn, 1) := by decide +kernel
theorem dX6_truckAt_50 : decode cX6_truckAt 50 = .ok (.aload_n 0, 1) := by decide +kernel
theorem dX6_truckAt_51 : decode cX6_truckAt 51 = .ok (.getfield 7, 3) := by decide +kernel
theorem dX6_truckAt_54 : decode cX6_truckAt 54 = .ok (.bipush 16, 2) := by decide +kernel
theorem dX6_truckAt_56 : decode cX6_truckAt 56 = .ok (.iload_n 1, 1) := by decide +kernel
theorem dX6_truckAt_57 : decode cX6_truckAt 57 = .ok (.iadd, 1) := by decide +kernel
theorem dX6_truckAt_58 : decode cX6_truckAt 58 = .ok (.iaload, 1) := by decide +kernel
theorem dX6_truckAt_59 : decode cX6_truckAt 59 = .ok (.ireturn, 1) := by decide +kernel
theorem dX6_truckAt_60 : decode cX6_truckAt 60 = .ok (.aload_n 0, 1) := by decide +kernel
theorem dX6_truckAt_61 : decode cX6_truckAt 61 = .ok (.iload_n 1, 1) := by decide +kernel
theorem dX6_truckAt_62 : decode cX6_truckAt 62 = .ok (.invokevirtual 144, 3) := by decide +kernel
theorem dX6_truckAt_65 : decode cX6_truckAt 65 = .ok (.ireturn, 1) := by decide +kernel
theorem dX6_truckAt_66 : decode cX6_truckAt 66 = .ok (.ldc 132, 2) := by decide +kernel
theorem dX6_truckAt_68 : decode cX6_truckAt 68 = .ok (.ireturn, 1) := by decide +kernel
theorem dX6_build_0 : decode cX6_build 0 = .ok (.iload_n 1, 1) := by decide +kernel
theorem dX6_build_1 : decode cX6_build 1 = .ok (.i2l, 1) := by decide +kernel
theorem dX6_build_2 : decode cX6_build 2 = .ok (.lconst 1, 1) := by decide +kernel
theorem dX6_build_3 : decode cX6_build 3 = .ok (.ldc2_w 147, 3) := by decide +kernel
theorem dX6_build_6 : decode cX6_build 6 = .ok (.invokestatic 50, 3) := by decide +kernel
theorem dX6_build_9 : decode cX6_build 9 = .ok (.ifCond .eq 15, 3) := by decide +kernel
theorem dX6_build_12 : decode cX6_build 12 = .ok (.iload_n 2, 1) := by decide +kernel
theorem dX6_build_13 : decode cX6_build 13 = .ok (.i2l, 1) := by decide +kernel
theorem dX6_build_14 : decode cX6_build 14 = .ok (.lconst 1, 1) := by decide +kernel
theorem dX6_build_15 : decode cX6_build 15 = .ok (.ldc2_w 147, 3) := by decide +kernel
theorem dX6_build_18 : decode cX6_build 18 = .ok (.invokestatic 50, 3) := by decide +kernel
theorem dX6_build_21 : decode cX6_build 21 = .ok (.ifCond .ne 6, 3) := by decide +kernel
theorem dX6_build_24 : decode cX6_build 24 = .ok (.ldc 132, 2) := by decide +kernel
theorem dX6_build_26 : decode cX6_build 26 = .ok (.ireturn, 1) := by decide +kernel
theorem dX6_build_27 : decode cX6_build 27 = .ok (.aload_n 0, 1) := by decide +kernel
theorem dX6_build_28 : decode cX6_build 28 = .ok (.invokevirtual 111, 3) := by decide +kernel
theorem dX6_build_31 : decode cX6_build 31 = .ok (.invokestatic 149, 3) := by decide +kernel
theorem dX6_build_34 : decode cX6_build 34 = .ok (.istore_n 3, 1) := by decide +kernel
theorem dX6_build_35 : decode cX6_build 35 = .ok (.aload_n 0, 1) := by decide +kernel
theorem dX6_build_36 : decode cX6_build 36 = .ok (.invokevirtual 152, 3) := by decide +kernel
theorem dX6_build_39 : decode cX6_build 39 = .ok (.aload_n 0, 1) := by decide +kernel
theorem dX6_build_40 : decode cX6_build 40 = .ok (.iload_n 1, 1) := by decide +kernel
theorem dX6_build_41 : decode cX6_build 41 = .ok (.iload_n 2, 1) := by decide +kernel
theorem dX6_build_42 : decode cX6_build 42 = .ok (.invokevirtual 35, 3) := by decide +kernel
theorem dX6_build_45 : decode cX6_build 45 = .ok (.iload_n 3, 1) := by decide +kernel
theorem dX6_build_46 : decode cX6_build 46 = .ok (.ireturn, 1) := by decide +kernel
theorem dX6_comes_0 : decode cX6_comes 0 = .ok (.aload_n 0, 1) := by decide +kernel
theorem dX6_comes_1 : decode cX6_comes 1 = .ok (.getfield 7, 3) := by decide +kernel
theorem dX6_comes_4 : decode cX6_comes 4 = .ok (.bipush 7, 2) := by decide +kernel
theorem dX6_comes_6 : decode cX6_comes 6 = .ok (.aload_n 0, 1) := by decide +kernel
theorem dX6_comes_7 : decode cX6_comes 7 = .ok (.getfield 7, 3) := by decide +kernel
theorem dX6_comes_10 : decode cX6_comes 10 = .ok (.iconst 3, 1) := by decide +kernel
theorem dX6_comes_11 : decode cX6_comes 11 = .ok (.iaload, 1) := by decide +kernel
theorem dX6_comes_12 : decode cX6_comes 12 = .ok (.iadd, 1) := by decide +kernel
theorem dX6_comes_13 : decode cX6_comes 13 = .ok (.iload_n 1, 1) := by decide +kernel
theorem dX6_comes_14 : decode cX6_comes 14 = .ok (.iastore, 1) := by decide +kernel
theorem dX6_comes_15 : decode cX6_comes 15 = .ok (.aload_n 0, 1) := by decide +kernel
theorem dX6_comes_16 : decode cX6_comes 16 = .ok (.getfield 7, 3) := by decide +kernel
theorem dX6_comes_19 : decode cX6_comes 19 = .ok (.bipush 16, 2) := by decide +kernel
theorem dX6_comes_21 : decode cX6_comes 21 = .ok (.aload_n 0, 1) := by decide +kernel
theorem dX6_comes_22 : decode cX6_comes 22 = .ok (.getfield 7, 3) := by decide +kernel
theorem dX6_comes_25 : decode cX6_comes 25 = .ok (.iconst 3, 1) := by decide +kernel
theorem dX6_comes_26 : decode cX6_comes 26 = .ok (.iaload, 1) := by decide +kernel
theorem dX6_comes_27 : decode cX6_comes 27 = .ok (.iadd, 1) := by decide +kernel
theorem dX6_comes_28 : decode cX6_comes 28 = .ok (.iload_n 2, 1) := by decide +kernel
theorem dX6_comes_29 : decode cX6_comes 29 = .ok (.iastore, 1) := by decide +kernel
theorem dX6_comes_30 : decode cX6_comes 30 = .ok (.aload_n 0, 1) := by decide +kernel
theorem dX6_comes_31 : decode cX6_comes 31 = .ok (.getfield 7, 3) := by decide +kernel
theorem dX6_comes_34 : decode cX6_comes 34 = .ok (.iconst 3, 1) := by decide +kernel
theorem dX6_comes_35 : decode cX6_comes 35 = .ok (.dup2, 1) := by decide +kernel
theorem dX6_comes_36 : decode cX6_comes 36 = .ok (.iaload, 1) := by decide +kernel
theorem dX6_comes_37 : decode cX6_comes 37 = .ok (.iconst 1, 1) := by decide +kernel
theorem dX6_comes_38 : decode cX6_comes 38 = .ok (.iadd, 1) := by decide +kernel
theorem dX6_comes_39 : decode cX6_comes 39 = .ok (.iastore, 1) := by decide +kernel
theorem dX6_comes_40 : decode cX6_comes 40 = .ok (.return_, 1) := by decide +kernel
theorem dX6_truck_0 : decode cX6_truck 0 = .ok (.iload_n 1, 1) := by decide +kernel
theorem dX6_truck_1 : decode cX6_truck 1 = .ok (.i2l, 1) := by decide +kernel
theorem dX6_truck_2 : decode cX6_truck 2 = .ok (.lconst 0, 1) := by decide +kernel
theorem dX6_truck_3 : decode cX6_truck 3 = .ok (.ldc2_w 155, 3) := by decide +kernel
theorem dX6_truck_6 : decode cX6_truck 6 = .ok (.invokestatic 50, 3) := by decide +kernel
theorem dX6_truck_9 : decode cX6_truck 9 = .ok (.ifCond .eq 15, 3) := by decide +kernel
theorem dX6_truck_12 : decode cX6_truck 12 = .ok (.iload_n 2, 1) := by decide +kernel
theorem dX6_truck_13 : decode cX6_truck 13 = .ok (.i2l, 1) := by decide +kernel
theorem dX6_truck_14 : decode cX6_truck 14 = .ok (.lconst 1, 1) := by decide +kernel
theorem dX6_truck_15 : decode cX6_truck 15 = .ok (.ldc2_w 157, 3) := by decide +kernel
theorem dX6_truck_18 : decode cX6_truck 18 = .ok (.invokestatic 50, 3) := by decide +kernel
theorem dX6_truck_21 : decode cX6_truck 21 = .ok (.ifCond .ne 6, 3) := by decide +kernel
theorem dX6_truck_24 : decode cX6_truck 24 = .ok (.ldc 132, 2) := by decide +kernel
theorem dX6_truck_26 : decode cX6_truck 26 = .ok (.ireturn, 1) := by decide +kernel
theorem dX6_truck_27 : decode cX6_truck 27 = .ok (.aload_n 0, 1) := by decide +kernel
theorem dX6_truck_28 : decode cX6_truck 28 = .ok (.getfield 7, 3) := by decide +kernel
theorem dX6_truck_31 : decode cX6_truck 31 = .ok (.iconst 3, 1) := by decide +kernel
theorem dX6_truck_32 : decode cX6_truck 32 = .ok (.iaload, 1) := by decide +kernel
theorem dX6_truck_33 : decode cX6_truck 33 = .ok (.bipush 9, 2) := by decide +kernel
theorem dX6_truck_35 : decode cX6_truck 35 = .ok (.if_icmp .ne 6, 3) := by decide +kernel
theorem dX6_truck_38 : decode cX6_truck 38 = .ok (.ldc 159, 2) := by decide +kernel
theorem dX6_truck_40 : decode cX6_truck 40 = .ok (.ireturn, 1) := by decide +kernel
theorem dX6_truck_41 : decode cX6_truck 41 = .ok (.aload_n 0, 1) := by decide +kernel
theorem dX6_truck_42 : decode cX6_truck 42 = .ok (.invokevirtual 152, 3) := by decide +kernel
theorem dX6_truck_45 : decode cX6_truck 45 = .ok (.aload_n 0, 1) := by decide +kernel
theorem dX6_truck_46 : decode cX6_truck 46 = .ok (.iload_n 1, 1) := by decide +kernel
theorem dX6_truck_47 : decode cX6_truck 47 = .ok (.iload_n 2, 1) := by decide +kernel
theorem dX6_truck_48 : decode cX6_truck 48 = .ok (.invokevirtual 160, 3) := by decide +kernel
theorem dX6_truck_51 : decode cX6_truck 51 = .ok (.aload_n 0, 1) := by decide +kernel
theorem dX6_truck_52 : decode cX6_truck 52 = .ok (.getfield 7, 3) := by decide +kernel
theorem dX6_truck_55 : decode cX6_truck 55 = .ok (.iconst 3, 1) := by decide +kernel
theorem dX6_truck_56 : decode cX6_truck 56 = .ok (.iaload, 1) := by decide +kernel
theorem dX6_truck_57 : decode cX6_truck 57 = .ok (.iconst 1, 1) := by decide +kernel
theorem dX6_truck_58 : decode cX6_truck 58 = .ok (.isub, 1) := by decide +kernel
theorem dX6_truck_59 : decode cX6_truck 59 = .ok (.ireturn, 1) := by decide +kernel
theorem dX6_late_0 : decode cX6_late 0 = .ok (.aload_n 0, 1) := by decide +kernel
theorem dX6_late_1 : decode cX6_late 1 = .ok (.iload_n 1, 1) := by decide +kernel
theorem dX6_late_2 : decode cX6_late 2 = .ok (.invokevirtual 141, 3) := by decide +kernel
theorem dX6_late_5 : decode cX6_late 5 = .ok (.ifCond .ne 6, 3) := by decide +kernel
theorem dX6_late_8 : decode cX6_late 8 = .ok (.ldc 137, 2) := by decide +kernel
theorem dX6_late_10 : decode cX6_late 10 = .ok (.ireturn, 1) := by decide +kernel
theorem dX6_late_11 : decode cX6_late 11 = .ok (.iload_n 2, 1) := by decide +kernel
theorem dX6_late_12 : decode cX6_late 12 = .ok (.i2l, 1) := by decide +kernel
theorem dX6_late_13 : decode cX6_late 13 = .ok (.ldc2_w 163, 3) := by decide +kernel
theorem dX6_late_16 : decode cX6_late 16 = .ok (.ldc2_w 155, 3) := by decide +kernel
theorem dX6_late_19 : decode cX6_late 19 = .ok (.invokestatic 50, 3) := by decide +kernel
theorem dX6_late_22 : decode cX6_late 22 = .ok (.ifCond .eq 25, 3) := by decide +kernel
theorem dX6_late_25 : decode cX6_late 25 = .ok (.aload_n 0, 1) := by decide +kernel
theorem dX6_late_26 : decode cX6_late 26 = .ok (.getfield 7, 3) := by decide +kernel
theorem dX6_late_29 : decode cX6_late 29 = .ok (.bipush 7, 2) := by decide +kernel
theorem dX6_late_31 : decode cX6_late 31 = .ok (.iload_n 1, 1) := by decide +kernel
theorem dX6_late_32 : decode cX6_late 32 = .ok (.iadd, 1) := by decide +kernel
theorem dX6_late_33 : decode cX6_late 33 = .ok (.iaload, 1) := by decide +kernel
theorem dX6_late_34 : decode cX6_late 34 = .ok (.iload_n 2, 1) := by decide +kernel
theorem dX6_late_35 : decode cX6_late 35 = .ok (.iadd, 1) := by decide +kernel
theorem dX6_late_36 : decode cX6_late 36 = .ok (.i2l, 1) := by decide +kernel
theorem dX6_late_37 : decode cX6_late 37 = .ok (.lconst 0, 1) := by decide +kernel
theorem dX6_late_38 : decode cX6_late 38 = .ok (.ldc2_w 155, 3) := by decide +kernel
theorem dX6_late_41 : decode cX6_late 41 = .ok (.invokestatic 50, 3) := by decide +kernel
theorem dX6_late_44 : decode cX6_late 44 = .ok (.ifCond .ne 6, 3) := by decide +kernel
theorem dX6_late_47 : decode cX6_late 47 = .ok (.ldc 132, 2) := by decide +kernel
theorem dX6_late_49 : decode cX6_late 49 = .ok (.ireturn, 1) := by decide +kernel
theorem dX6_late_50 : decode cX6_late 50 = .ok (.aload_n 0, 1) := by decide +kernel
theorem dX6_late_51 : decode cX6_late 51 = .ok (.iconst 0, 1) := by decide +kernel
theorem dX6_late_52 : decode cX6_late 52 = .ok (.bipush 104, 2) := by decide +kernel
theorem dX6_late_54 : decode cX6_late 54 = .ok (.invokevirtual 43, 3) := by decide +kernel
theorem dX6_late_57 : decode cX6_late 57 = .ok (.aload_n 0, 1) := by decide +kernel
theorem dX6_late_58 : decode cX6_late 58 = .ok (.getfield 7, 3) := by decide +kernel
theorem dX6_late_61 : decode cX6_late 61 = .ok (.bipush 111, 2) := by decide +kernel
theorem dX6_late_63 : decode cX6_late 63 = .ok (.iload_n 1, 1) := by decide +kernel
theorem dX6_late_64 : decode cX6_late 64 = .ok (.iadd, 1) := by decide +kernel
theorem dX6_late_65 : decode cX6_late 65 = .ok (.dup2, 1) := by decide +kernel
theorem dX6_late_66 : decode cX6_late 66 = .ok (.iaload, 1) := by decide +kernel
theorem dX6_late_67 : decode cX6_late 67 = .ok (.iload_n 2, 1) := by decide +kernel
theorem dX6_late_68 : decode cX6_late 68 = .ok (.iadd, 1) := by decide +kernel
theorem dX6_late_69 : decode cX6_late 69 = .ok (.iastore, 1) := by decide +kernel
theorem dX6_late_70 : decode cX6_late 70 = .ok (.aload_n 0, 1) := by decide +kernel
theorem dX6_late_71 : decode cX6_late 71 = .ok (.bipush 104, 2) := by decide +kernel
theorem dX6_late_73 : decode cX6_late 73 = .ok (.aload_n 0, 1) := by decide +kernel
theorem dX6_late_74 : decode cX6_late 74 = .ok (.getfield 7, 3) := by decide +kernel
theorem dX6_late_77 : decode cX6_late 77 = .ok (.iconst 2, 1) := by decide +kernel
theorem dX6_late_78 : decode cX6_late 78 = .ok (.iaload, 1) := by decide +kernel
theorem dX6_late_79 : decode cX6_late 79 = .ok (.invokevirtual 62, 3) := by decide +kernel
theorem dX6_late_82 : decode cX6_late 82 = .ok (.aload_n 0, 1) := by decide +kernel
theorem dX6_late_83 : decode cX6_late 83 = .ok (.iconst 0, 1) := by decide +kernel
theorem dX6_late_84 : decode cX6_late 84 = .ok (.invokevirtual 58, 3) := by decide +kernel
theorem dX6_late_87 : decode cX6_late 87 = .ok (.if_icmp .ge 6, 3) := by decide +kernel
theorem dX6_late_90 : decode cX6_late 90 = .ok (.ldc 165, 2) := by decide +kernel
theorem dX6_late_92 : decode cX6_late 92 = .ok (.ireturn, 1) := by decide +kernel
theorem dX6_late_93 : decode cX6_late 93 = .ok (.aload_n 0, 1) := by decide +kernel
theorem dX6_late_94 : decode cX6_late 94 = .ok (.invokevirtual 152, 3) := by decide +kernel
theorem dX6_late_97 : decode cX6_late 97 = .ok (.aload_n 0, 1) := by decide +kernel
theorem dX6_late_98 : decode cX6_late 98 = .ok (.getfield 7, 3) := by decide +kernel
theorem dX6_late_101 : decode cX6_late 101 = .ok (.bipush 7, 2) := by decide +kernel
theorem dX6_late_103 : decode cX6_late 103 = .ok (.iload_n 1, 1) := by decide +kernel
theorem dX6_late_104 : decode cX6_late 104 = .ok (.iadd, 1) := by decide +kernel
theorem dX6_late_105 : decode cX6_late 105 = .ok (.dup2, 1) := by decide +kernel
theorem dX6_late_106 : decode cX6_late 106 = .ok (.iaload, 1) := by decide +kernel
theorem dX6_late_107 : decode cX6_late 107 = .ok (.iload_n 2, 1) := by decide +kernel
theorem dX6_late_108 : decode cX6_late 108 = .ok (.iadd, 1) := by decide +kernel
theorem dX6_late_109 : decode cX6_late 109 = .ok (.iastore, 1) := by decide +kernel
theorem dX6_late_110 : decode cX6_late 110 = .ok (.aload_n 0, 1) := by decide +kernel
theorem dX6_late_111 : decode cX6_late 111 = .ok (.getfield 7, 3) := by decide +kernel
theorem dX6_late_114 : decode cX6_late 114 = .ok (.bipush 7, 2) := by decide +kernel
theorem dX6_late_116 : decode cX6_late 116 = .ok (.iload_n 1, 1) := by decide +kernel
theorem dX6_late_117 : decode cX6_late 117 = .ok (.iadd, 1) := by decide +kernel
theorem dX6_late_118 : decode cX6_late 118 = .ok (.iaload, 1) := by decide +kernel
theorem dX6_late_119 : decode cX6_late 119 = .ok (.ireturn, 1) := by decide +kernel
theorem dX6_away_0 : decode cX6_away 0 = .ok (.aload_n 0, 1) := by decide +kernel
theorem dX6_away_1 : decode cX6_away 1 = .ok (.iload_n 1, 1) := by decide +kernel
theorem dX6_away_2 : decode cX6_away 2 = .ok (.invokevirtual 141, 3) := by decide +kernel
theorem dX6_away_5 : decode cX6_away 5 = .ok (.ifCond .ne 6, 3) := by decide +kernel
theorem dX6_away_8 : decode cX6_away 8 = .ok (.ldc 137, 2) := by decide +kernel
theorem dX6_away_10 : decode cX6_away 10 = .ok (.ireturn, 1) := by decide +kernel
theorem dX6_away_11 : decode cX6_away 11 = .ok (.aload_n 0, 1) := by decide +kernel
theorem dX6_away_12 : decode cX6_away 12 = .ok (.getfield 7, 3) := by decide +kernel
theorem dX6_away_15 : decode cX6_away 15 = .ok (.bipush 7, 2) := by decide +kernel
theorem dX6_away_17 : decode cX6_away 17 = .ok (.iload_n 1, 1) := by decide +kernel
theorem dX6_away_18 : decode cX6_away 18 = .ok (.iadd, 1) := by decide +kernel
theorem dX6_away_19 : decode cX6_away 19 = .ok (.iaload, 1) := by decide +kernel
theorem dX6_away_20 : decode cX6_away 20 = .ok (.aload_n 0, 1) := by decide +kernel
theorem dX6_away_21 : decode cX6_away 21 = .ok (.getfield 7, 3) := by decide +kernel
theorem dX6_away_24 : decode cX6_away 24 = .ok (.iconst 2, 1) := by decide +kernel
theorem dX6_away_25 : decode cX6_away 25 = .ok (.iaload, 1) := by decide +kernel
theorem dX6_away_26 : decode cX6_away 26 = .ok (.if_icmp .gt 15, 3) := by decide +kernel
theorem dX6_away_29 : decode cX6_away 29 = .ok (.aload_n 0, 1) := by decide +kernel
theorem dX6_away_30 : decode cX6_away 30 = .ok (.getfield 7, 3) := by decide +kernel
theorem dX6_away_33 : decode cX6_away 33 = .ok (.bipush 16, 2) := by decide +kernel
theorem dX6_away_35 : decode cX6_away 35 = .ok (.iload_n 1, 1) := by decide +kernel
theorem dX6_away_36 : decode cX6_away 36 = .ok (.iadd, 1) := by decide +kernel
theorem dX6_away_37 : decode cX6_away 37 = .ok (.iaload, 1) := by decide +kernel
theorem dX6_away_38 : decode cX6_away 38 = .ok (.goto 4, 3) := by decide +kernel
theorem dX6_away_41 : decode cX6_away 41 = .ok (.iconst 0, 1) := by decide +kernel
theorem dX6_away_42 : decode cX6_away 42 = .ok (.istore_n 2, 1) := by decide +kernel
theorem dX6_away_43 : decode cX6_away 43 = .ok (.aload_n 0, 1) := by decide +kernel
theorem dX6_away_44 : decode cX6_away 44 = .ok (.iconst 0, 1) := by decide +kernel
theorem dX6_away_45 : decode cX6_away 45 = .ok (.aload_n 0, 1) := by decide +kernel
theorem dX6_away_46 : decode cX6_away 46 = .ok (.getfield 7, 3) := by decide +kernel
theorem dX6_away_49 : decode cX6_away 49 = .ok (.iconst 2, 1) := by decide +kernel
theorem dX6_away_50 : decode cX6_away 50 = .ok (.iaload, 1) := by decide +kernel
theorem dX6_away_51 : decode cX6_away 51 = .ok (.invokevirtual 62, 3) := by decide +kernel
theorem dX6_away_54 : decode cX6_away 54 = .ok (.iload_n 2, 1) := by decide +kernel
theorem dX6_away_55 : decode cX6_away 55 = .ok (.isub, 1) := by decide +kernel
theorem dX6_away_56 : decode cX6_away 56 = .ok (.aload_n 0, 1) := by decide +kernel
theorem dX6_away_57 : decode cX6_away 57 = .ok (.iconst 0, 1) := by decide +kernel
theorem dX6_away_58 : decode cX6_away 58 = .ok (.invokevirtual 58, 3) := by decide +kernel
theorem dX6_away_61 : decode cX6_away 61 = .ok (.if_icmp .ge 6, 3) := by decide +kernel
theorem dX6_away_64 : decode cX6_away 64 = .ok (.ldc 165, 2) := by decide +kernel
theorem dX6_away_66 : decode cX6_away 66 = .ok (.ireturn, 1) := by decide +kernel
theorem dX6_away_67 : decode cX6_away 67 = .ok (.aload_n 0, 1) := by decide +kernel
theorem dX6_away_68 : decode cX6_away 68 = .ok (.invokevirtual 152, 3) := by decide +kernel
theorem dX6_away_71 : decode cX6_away 71 = .ok (.aload_n 0, 1) := by decide +kernel
theorem dX6_away_72 : decode cX6_away 72 = .ok (.getfield 7, 3) := by decide +kernel
theorem dX6_away_75 : decode cX6_away 75 = .ok (.iconst 3, 1) := by decide +kernel
theorem dX6_away_76 : decode cX6_away 76 = .ok (.dup2, 1) := by decide +kernel
theorem dX6_away_77 : decode cX6_away 77 = .ok (.iaload, 1) := by decide +kernel
theorem dX6_away_78 : decode cX6_away 78 = .ok (.iconst 1, 1) := by decide +kernel
theorem dX6_away_79 : decode cX6_away 79 = .ok (.isub, 1) := by decide +kernel
theorem dX6_away_80 : decode cX6_away 80 = .ok (.iastore, 1) := by decide +kernel
theorem dX6_away_81 : decode cX6_away 81 = .ok (.iload_n 1, 1) := by decide +kernel
theorem dX6_away_82 : decode cX6_away 82 = .ok (.istore_n 3, 1) := by decide +kernel
theorem dX6_away_83 : decode cX6_away 83 = .ok (.iload_n 3, 1) := by decide +kernel
theorem dX6_away_84 : decode cX6_away 84 = .ok (.aload_n 0, 1) := by decide +kernel
theorem dX6_away_85 : decode cX6_away 85 = .ok (.getfield 7, 3) := by decide +kernel
theorem dX6_away_88 : decode cX6_away 88 = .ok (.iconst 3, 1) := by decide +kernel
theorem dX6_away_89 : decode cX6_away 89 = .ok (.iaload, 1) := by decide +kernel
theorem dX6_away_90 : decode cX6_away 90 = .ok (.if_icmp .ge 49, 3) := by decide +kernel
theorem dX6_away_93 : decode cX6_away 93 = .ok (.aload_n 0, 1) := by decide +kernel
theorem dX6_away_94 : decode cX6_away 94 = .ok (.getfield 7, 3) := by decide +kernel
theorem dX6_away_97 : decode cX6_away 97 = .ok (.bipush 7, 2) := by decide +kernel
theorem dX6_away_99 : decode cX6_away 99 = .ok (.iload_n 3, 1) := by decide +kernel
theorem dX6_away_100 : decode cX6_away 100 = .ok (.iadd, 1) := by decide +kernel
theorem dX6_away_101 : decode cX6_away 101 = .ok (.aload_n 0, 1) := by decide +kernel
theorem dX6_away_102 : decode cX6_away 102 = .ok (.getfield 7, 3) := by decide +kernel
theorem dX6_away_105 : decode cX6_away 105 = .ok (.bipush 7, 2) := by decide +kernel
theorem dX6_away_107 : decode cX6_away 107 = .ok (.iload_n 3, 1) := by decide +kernel
theorem dX6_away_108 : decode cX6_away 108 = .ok (.iadd, 1) := by decide +kernel
theorem dX6_away_109 : decode cX6_away 109 = .ok (.iconst 1, 1) := by decide +kernel
theorem dX6_away_110 : decode cX6_away 110 = .ok (.iadd, 1) := by decide +kernel
theorem dX6_away_111 : decode cX6_away 111 = .ok (.iaload, 1) := by decide +kernel
theorem dX6_away_112 : decode cX6_away 112 = .ok (.iastore, 1) := by decide +kernel
theorem dX6_away_113 : decode cX6_away 113 = .ok (.aload_n 0, 1) := by decide +kernel
theorem dX6_away_114 : decode cX6_away 114 = .ok (.getfield 7, 3) := by decide +kernel
theorem dX6_away_117 : decode cX6_away 117 = .ok (.bipush 16, 2) := by decide +kernel
theorem dX6_away_119 : decode cX6_away 119 = .ok (.iload_n 3, 1) := by decide +kernel
theorem dX6_away_120 : decode cX6_away 120 = .ok (.iadd, 1) := by decide +kernel
theorem dX6_away_121 : decode cX6_away 121 = .ok (.aload_n 0, 1) := by decide +kernel
theorem dX6_away_122 : decode cX6_away 122 = .ok (.getfield 7, 3) := by decide +kernel
theorem dX6_away_125 : decode cX6_away 125 = .ok (.bipush 16, 2) := by decide +kernel
theorem dX6_away_127 : decode cX6_away 127 = .ok (.iload_n 3, 1) := by decide +kernel
theorem dX6_away_128 : decode cX6_away 128 = .ok (.iadd, 1) := by decide +kernel
theorem dX6_away_129 : decode cX6_away 129 = .ok (.iconst 1, 1) := by decide +kernel
theorem dX6_away_130 : decode cX6_away 130 = .ok (.iadd, 1) := by decide +kernel
theorem dX6_away_131 : decode cX6_away 131 = .ok (.iaload, 1) := by decide +kernel
theorem dX6_away_132 : decode cX6_away 132 = .ok (.iastore, 1) := by decide +kernel
theorem dX6_away_133 : decode cX6_away 133 = .ok (.iinc 3 1, 3) := by decide +kernel
theorem dX6_away_136 : decode cX6_away 136 = .ok (.goto (-53), 3) := by decide +kernel
theorem dX6_away_139 : decode cX6_away 139 = .ok (.aload_n 0, 1) := by decide +kernel
theorem dX6_away_140 : decode cX6_away 140 = .ok (.getfield 7, 3) := by decide +kernel
theorem dX6_away_143 : decode cX6_away 143 = .ok (.iconst 3, 1) := by decide +kernel
theorem dX6_away_144 : decode cX6_away 144 = .ok (.iaload, 1) := by decide +kernel
theorem dX6_away_145 : decode cX6_away 145 = .ok (.ireturn, 1) := by decide +kernel
theorem dX6_need_0 : decode cX6_need 0 = .ok (.aload_n 0, 1) := by decide +kernel
theorem dX6_need_1 : decode cX6_need 1 = .ok (.iload_n 1, 1) := by decide +kernel
theorem dX6_need_2 : decode cX6_need 2 = .ok (.invokevirtual 133, 3) := by decide +kernel
theorem dX6_need_5 : decode cX6_need 5 = .ok (.ifCond .ne 6, 3) := by decide +kernel
theorem dX6_need_8 : decode cX6_need 8 = .ok (.ldc 137, 2) := by decide +kernel
theorem dX6_need_10 : decode cX6_need 10 = .ok (.ireturn, 1) := by decide +kernel
theorem dX6_need_11 : decode cX6_need 11 = .ok (.iload_n 2, 1) := by decide +kernel
theorem dX6_need_12 : decode cX6_need 12 = .ok (.i2l, 1) := by decide +kernel
theorem dX6_need_13 : decode cX6_need 13 = .ok (.lconst 1, 1) := by decide +kernel
theorem dX6_need_14 : decode cX6_need 14 = .ok (.ldc2_w 147, 3) := by decide +kernel
theorem dX6_need_17 : decode cX6_need 17 = .ok (.invokestatic 50, 3) := by decide +kernel
theorem dX6_need_20 : decode cX6_need 20 = .ok (.ifCond .ne 6, 3) := by decide +kernel
theorem dX6_need_23 : decode cX6_need 23 = .ok (.ldc 132, 2) := by decide +kernel
theorem dX6_need_25 : decode cX6_need 25 = .ok (.ireturn, 1) := by decide +kernel
theorem dX6_need_26 : decode cX6_need 26 = .ok (.aload_n 0, 1) := by decide +kernel
theorem dX6_need_27 : decode cX6_need 27 = .ok (.iconst 0, 1) := by decide +kernel
theorem dX6_need_28 : decode cX6_need 28 = .ok (.iload_n 1, 1) := by decide +kernel
theorem dX6_need_29 : decode cX6_need 29 = .ok (.invokevirtual 54, 3) := by decide +kernel
theorem dX6_need_32 : decode cX6_need 32 = .ok (.ifCond .eq 6, 3) := by decide +kernel
theorem dX6_need_35 : decode cX6_need 35 = .ok (.ldc 165, 2) := by decide +kernel
theorem dX6_need_37 : decode cX6_need 37 = .ok (.ireturn, 1) := by decide +kernel
theorem dX6_need_38 : decode cX6_need 38 = .ok (.aload_n 0, 1) := by decide +kernel
theorem dX6_need_39 : decode cX6_need 39 = .ok (.invokevirtual 152, 3) := by decide +kernel
theorem dX6_need_42 : decode cX6_need 42 = .ok (.aload_n 0, 1) := by decide +kernel
theorem dX6_need_43 : decode cX6_need 43 = .ok (.getfield 7, 3) := by decide +kernel
theorem dX6_need_46 : decode cX6_need 46 = .ok (.bipush 25, 2) := by decide +kernel
theorem dX6_need_48 : decode cX6_need 48 = .ok (.iload_n 1, 1) := by decide +kernel
theorem dX6_need_49 : decode cX6_need 49 = .ok (.iadd, 1) := by decide +kernel
theorem dX6_need_50 : decode cX6_need 50 = .ok (.iaload, 1) := by decide +kernel
theorem dX6_need_51 : decode cX6_need 51 = .ok (.istore_n 3, 1) := by decide +kernel
theorem dX6_need_52 : decode cX6_need 52 = .ok (.aload_n 0, 1) := by decide +kernel
theorem dX6_need_53 : decode cX6_need 53 = .ok (.getfield 7, 3) := by decide +kernel
theorem dX6_need_56 : decode cX6_need 56 = .ok (.bipush 25, 2) := by decide +kernel
theorem dX6_need_58 : decode cX6_need 58 = .ok (.iload_n 1, 1) := by decide +kernel
theorem dX6_need_59 : decode cX6_need 59 = .ok (.iadd, 1) := by decide +kernel
theorem dX6_need_60 : decode cX6_need 60 = .ok (.iload_n 2, 1) := by decide +kernel
theorem dX6_need_61 : decode cX6_need 61 = .ok (.iastore, 1) := by decide +kernel
theorem dX6_need_62 : decode cX6_need 62 = .ok (.iload_n 3, 1) := by decide +kernel
theorem dX6_need_63 : decode cX6_need 63 = .ok (.ireturn, 1) := by decide +kernel
theorem dX6_bound_0 : decode cX6_bound 0 = .ok (.iload_n 1, 1) := by decide +kernel
theorem dX6_bound_1 : decode cX6_bound 1 = .ok (.ifCond .ne 15, 3) := by decide +kernel
theorem dX6_bound_4 : decode cX6_bound 4 = .ok (.iload_n 2, 1) := by decide +kernel
theorem dX6_bound_5 : decode cX6_bound 5 = .ok (.i2l, 1) := by decide +kernel
theorem dX6_bound_6 : decode cX6_bound 6 = .ok (.lconst 1, 1) := by decide +kernel
theorem dX6_bound_7 : decode cX6_bound 7 = .ok (.ldc2_w 166, 3) := by decide +kernel
theorem dX6_bound_10 : decode cX6_bound 10 = .ok (.invokestatic 50, 3) := by decide +kernel
theorem dX6_bound_13 : decode cX6_bound 13 = .ok (.goto 32, 3) := by decide +kernel
theorem dX6_bound_16 : decode cX6_bound 16 = .ok (.iload_n 1, 1) := by decide +kernel
theorem dX6_bound_17 : decode cX6_bound 17 = .ok (.i2l, 1) := by decide +kernel
theorem dX6_bound_18 : decode cX6_bound 18 = .ok (.lconst 1, 1) := by decide +kernel
theorem dX6_bound_19 : decode cX6_bound 19 = .ok (.ldc2_w 168, 3) := by decide +kernel
theorem dX6_bound_22 : decode cX6_bound 22 = .ok (.invokestatic 50, 3) := by decide +kernel
theorem dX6_bound_25 : decode cX6_bound 25 = .ok (.ifCond .eq 19, 3) := by decide +kernel
theorem dX6_bound_28 : decode cX6_bound 28 = .ok (.iload_n 2, 1) := by decide +kernel
theorem dX6_bound_29 : decode cX6_bound 29 = .ok (.i2l, 1) := by decide +kernel
theorem dX6_bound_30 : decode cX6_bound 30 = .ok (.lconst 0, 1) := by decide +kernel
theorem dX6_bound_31 : decode cX6_bound 31 = .ok (.ldc2_w 170, 3) := by decide +kernel
theorem dX6_bound_34 : decode cX6_bound 34 = .ok (.invokestatic 50, 3) := by decide +kernel
theorem dX6_bound_37 : decode cX6_bound 37 = .ok (.ifCond .eq 7, 3) := by decide +kernel
theorem dX6_bound_40 : decode cX6_bound 40 = .ok (.iconst 1, 1) := by decide +kernel
theorem dX6_bound_41 : decode cX6_bound 41 = .ok (.goto 4, 3) := by decide +kernel
theorem dX6_bound_44 : decode cX6_bound 44 = .ok (.iconst 0, 1) := by decide +kernel
theorem dX6_bound_45 : decode cX6_bound 45 = .ok (.istore_n 3, 1) := by decide +kernel
theorem dX6_bound_46 : decode cX6_bound 46 = .ok (.iload_n 3, 1) := by decide +kernel
theorem dX6_bound_47 : decode cX6_bound 47 = .ok (.ifCond .ne 6, 3) := by decide +kernel
theorem dX6_bound_50 : decode cX6_bound 50 = .ok (.ldc 132, 2) := by decide +kernel
theorem dX6_bound_52 : decode cX6_bound 52 = .ok (.ireturn, 1) := by decide +kernel
theorem dX6_bound_53 : decode cX6_bound 53 = .ok (.aload_n 0, 1) := by decide +kernel
theorem dX6_bound_54 : decode cX6_bound 54 = .ok (.invokevirtual 152, 3) := by decide +kernel
theorem dX6_bound_57 : decode cX6_bound 57 = .ok (.aload_n 0, 1) := by decide +kernel
theorem dX6_bound_58 : decode cX6_bound 58 = .ok (.getfield 7, 3) := by decide +kernel
theorem dX6_bound_61 : decode cX6_bound 61 = .ok (.iconst 4, 1) := by decide +kernel
theorem dX6_bound_62 : decode cX6_bound 62 = .ok (.iload_n 1, 1) := by decide +kernel
theorem dX6_bound_63 : decode cX6_bound 63 = .ok (.iadd, 1) := by decide +kernel
theorem dX6_bound_64 : decode cX6_bound 64 = .ok (.iaload, 1) := by decide +kernel
theorem dX6_bound_65 : decode cX6_bound 65 = .ok (.istore 4, 2) := by decide +kernel
theorem dX6_bound_67 : decode cX6_bound 67 = .ok (.aload_n 0, 1) := by decide +kernel
theorem dX6_bound_68 : decode cX6_bound 68 = .ok (.getfield 7, 3) := by decide +kernel
theorem dX6_bound_71 : decode cX6_bound 71 = .ok (.iconst 4, 1) := by decide +kernel
theorem dX6_bound_72 : decode cX6_bound 72 = .ok (.iload_n 1, 1) := by decide +kernel
theorem dX6_bound_73 : decode cX6_bound 73 = .ok (.iadd, 1) := by decide +kernel
theorem dX6_bound_74 : decode cX6_bound 74 = .ok (.iload_n 2, 1) := by decide +kernel
theorem dX6_bound_75 : decode cX6_bound 75 = .ok (.iastore, 1) := by decide +kernel
theorem dX6_bound_76 : decode cX6_bound 76 = .ok (.iload 4, 2) := by decide +kernel
theorem dX6_bound_78 : decode cX6_bound 78 = .ok (.ireturn, 1) := by decide +kernel
theorem dX6_pour_0 : decode cX6_pour 0 = .ok (.aload_n 0, 1) := by decide +kernel
theorem dX6_pour_1 : decode cX6_pour 1 = .ok (.iload_n 1, 1) := by decide +kernel
theorem dX6_pour_2 : decode cX6_pour 2 = .ok (.invokevirtual 133, 3) := by decide +kernel
theorem dX6_pour_5 : decode cX6_pour 5 = .ok (.ifCond .ne 6, 3) := by decide +kernel
theorem dX6_pour_8 : decode cX6_pour 8 = .ok (.ldc 137, 2) := by decide +kernel
theorem dX6_pour_10 : decode cX6_pour 10 = .ok (.ireturn, 1) := by decide +kernel
theorem dX6_pour_11 : decode cX6_pour 11 = .ok (.aload_n 0, 1) := by decide +kernel
theorem dX6_pour_12 : decode cX6_pour 12 = .ok (.iconst 0, 1) := by decide +kernel
theorem dX6_pour_13 : decode cX6_pour 13 = .ok (.iload_n 1, 1) := by decide +kernel
theorem dX6_pour_14 : decode cX6_pour 14 = .ok (.invokevirtual 67, 3) := by decide +kernel
theorem dX6_pour_17 : decode cX6_pour 17 = .ok (.iconst (-1), 1) := by decide +kernel
theorem dX6_pour_18 : decode cX6_pour 18 = .ok (.if_icmp .ne 6, 3) := by decide +kernel
theorem dX6_pour_21 : decode cX6_pour 21 = .ok (.ldc 165, 2) := by decide +kernel
theorem dX6_pour_23 : decode cX6_pour 23 = .ok (.ireturn, 1) := by decide +kernel
theorem dX6_pour_24 : decode cX6_pour 24 = .ok (.aload_n 0, 1) := by decide +kernel
theorem dX6_pour_25 : decode cX6_pour 25 = .ok (.invokevirtual 152, 3) := by decide +kernel
theorem dX6_pour_28 : decode cX6_pour 28 = .ok (.aload_n 0, 1) := by decide +kernel
theorem dX6_pour_29 : decode cX6_pour 29 = .ok (.iconst 0, 1) := by decide +kernel
theorem dX6_pour_30 : decode cX6_pour 30 = .ok (.iload_n 1, 1) := by decide +kernel
theorem dX6_pour_31 : decode cX6_pour 31 = .ok (.invokevirtual 99, 3) := by decide +kernel
theorem dX6_pour_34 : decode cX6_pour 34 = .ok (.ifCond .eq 12, 3) := by decide +kernel
theorem dX6_pour_37 : decode cX6_pour 37 = .ok (.aload_n 0, 1) := by decide +kernel
theorem dX6_pour_38 : decode cX6_pour 38 = .ok (.iconst 0, 1) := by decide +kernel
theorem dX6_pour_39 : decode cX6_pour 39 = .ok (.iconst 0, 1) := by decide +kernel
theorem dX6_pour_40 : decode cX6_pour 40 = .ok (.invokevirtual 82, 3) := by decide +kernel
theorem dX6_pour_43 : decode cX6_pour 43 = .ok (.goto 5, 3) := by decide +kernel
theorem dX6_pour_46 : decode cX6_pour 46 = .ok (.ldc 165, 2) := by decide +kernel
theorem dX6_pour_48 : decode cX6_pour 48 = .ok (.ireturn, 1) := by decide +kernel
theorem dX6_rest_0 : decode cX6_rest 0 = .ok (.iload_n 1, 1) := by decide +kernel
theorem dX6_rest_1 : decode cX6_rest 1 = .ok (.i2l, 1) := by decide +kernel
theorem dX6_rest_2 : decode cX6_rest 2 = .ok (.lconst 1, 1) := by decide +kernel
theorem dX6_rest_3 : decode cX6_rest 3 = .ok (.ldc2_w 166, 3) := by decide +kernel
theorem dX6_rest_6 : decode cX6_rest 6 = .ok (.invokestatic 50, 3) := by decide +kernel
theorem dX6_rest_9 : decode cX6_rest 9 = .ok (.ifCond .ne 6, 3) := by decide +kernel
theorem dX6_rest_12 : decode cX6_rest 12 = .ok (.ldc 132, 2) := by decide +kernel
theorem dX6_rest_14 : decode cX6_rest 14 = .ok (.ireturn, 1) := by decide +kernel
theorem dX6_rest_15 : decode cX6_rest 15 = .ok (.aload_n 0, 1) := by decide +kernel
theorem dX6_rest_16 : decode cX6_rest 16 = .ok (.getfield 7, 3) := by decide +kernel
theorem dX6_rest_19 : decode cX6_rest 19 = .ok (.iconst 2, 1) := by decide +kernel
theorem dX6_rest_20 : decode cX6_rest 20 = .ok (.iaload, 1) := by decide +kernel
theorem dX6_rest_21 : decode cX6_rest 21 = .ok (.iload_n 1, 1) := by decide +kernel
theorem dX6_rest_22 : decode cX6_rest 22 = .ok (.iadd, 1) := by decide +kernel
theorem dX6_rest_23 : decode cX6_rest 23 = .ok (.sipush 9999, 3) := by decide +kernel
theorem dX6_rest_26 : decode cX6_rest 26 = .ok (.if_icmp .le 6, 3) := by decide +kernel
theorem dX6_rest_29 : decode cX6_rest 29 = .ok (.ldc 165, 2) := by decide +kernel
theorem dX6_rest_31 : decode cX6_rest 31 = .ok (.ireturn, 1) := by decide +kernel
theorem dX6_rest_32 : decode cX6_rest 32 = .ok (.aload_n 0, 1) := by decide +kernel
theorem dX6_rest_33 : decode cX6_rest 33 = .ok (.invokevirtual 152, 3) := by decide +kernel
theorem dX6_rest_36 : decode cX6_rest 36 = .ok (.aload_n 0, 1) := by decide +kernel
theorem dX6_rest_37 : decode cX6_rest 37 = .ok (.getfield 7, 3) := by decide +kernel
theorem dX6_rest_40 : decode cX6_rest 40 = .ok (.iconst 2, 1) := by decide +kernel
theorem dX6_rest_41 : decode cX6_rest 41 = .ok (.dup2, 1) := by decide +kernel
theorem dX6_rest_42 : decode cX6_rest 42 = .ok (.iaload, 1) := by decide +kernel
theorem dX6_rest_43 : decode cX6_rest 43 = .ok (.iload_n 1, 1) := by decide +kernel
theorem dX6_rest_44 : decode cX6_rest 44 = .ok (.iadd, 1) := by decide +kernel
theorem dX6_rest_45 : decode cX6_rest 45 = .ok (.iastore, 1) := by decide +kernel
theorem dX6_rest_46 : decode cX6_rest 46 = .ok (.aload_n 0, 1) := by decide +kernel
theorem dX6_rest_47 : decode cX6_rest 47 = .ok (.getfield 7, 3) := by decide +kernel
theorem dX6_rest_50 : decode cX6_rest 50 = .ok (.iconst 2, 1) := by decide +kernel
theorem dX6_rest_51 : decode cX6_rest 51 = .ok (.iaload, 1) := by decide +kernel
theorem dX6_rest_52 : decode cX6_rest 52 = .ok (.ireturn, 1) := by decide +kernel
theorem dX6_follow_0 : decode cX6_follow 0 = .ok (.aload_n 0, 1) := by decide +kernel
theorem dX6_follow_1 : decode cX6_follow 1 = .ok (.invokevirtual 105, 3) := by decide +kernel
theorem dX6_follow_4 : decode cX6_follow 4 = .ok (.aload_n 0, 1) := by decide +kernel
theorem dX6_follow_5 : decode cX6_follow 5 = .ok (.getfield 86, 3) := by decide +kernel
theorem dX6_follow_8 : decode cX6_follow 8 = .ok (.iconst 1, 1) := by decide +kernel
theorem dX6_follow_9 : decode cX6_follow 9 = .ok (.if_icmp .ge 6, 3) := by decide +kernel
theorem dX6_follow_12 : decode cX6_follow 12 = .ok (.ldc 165, 2) := by decide +kernel
theorem dX6_follow_14 : decode cX6_follow 14 = .ok (.ireturn, 1) := by decide +kernel
theorem dX6_follow_15 : decode cX6_follow 15 = .ok (.aload_n 0, 1) := by decide +kernel
theorem dX6_follow_16 : decode cX6_follow 16 = .ok (.getfield 26, 3) := by decide +kernel
theorem dX6_follow_19 : decode cX6_follow 19 = .ok (.iconst 0, 1) := by decide +kernel
theorem dX6_follow_20 : decode cX6_follow 20 = .ok (.iaload, 1) := by decide +kernel
theorem dX6_follow_21 : decode cX6_follow 21 = .ok (.istore_n 1, 1) := by decide +kernel
theorem dX6_follow_22 : decode cX6_follow 22 = .ok (.aload_n 0, 1) := by decide +kernel
theorem dX6_follow_23 : decode cX6_follow 23 = .ok (.invokevirtual 152, 3) := by decide +kernel
theorem dX6_follow_26 : decode cX6_follow 26 = .ok (.aload_n 0, 1) := by decide +kernel
theorem dX6_follow_27 : decode cX6_follow 27 = .ok (.iconst 0, 1) := by decide +kernel
theorem dX6_follow_28 : decode cX6_follow 28 = .ok (.iload_n 1, 1) := by decide +kernel
theorem dX6_follow_29 : decode cX6_follow 29 = .ok (.invokevirtual 99, 3) := by decide +kernel
theorem dX6_follow_32 : decode cX6_follow 32 = .ok (.ifCond .eq 7, 3) := by decide +kernel
theorem dX6_follow_35 : decode cX6_follow 35 = .ok (.iload_n 1, 1) := by decide +kernel
theorem dX6_follow_36 : decode cX6_follow 36 = .ok (.goto 5, 3) := by decide +kernel
theorem dX6_follow_39 : decode cX6_follow 39 = .ok (.ldc 165, 2) := by decide +kernel
theorem dX6_follow_41 : decode cX6_follow 41 = .ok (.ireturn, 1) := by decide +kernel
theorem dX6_draw_0 : decode cX6_draw 0 = .ok (.aload_n 0, 1) := by decide +kernel
theorem dX6_draw_1 : decode cX6_draw 1 = .ok (.aload_n 0, 1) := by decide +kernel
theorem dX6_draw_2 : decode cX6_draw 2 = .ok (.getfield 172, 3) := by decide +kernel
theorem dX6_draw_5 : decode cX6_draw 5 = .ok (.i2l, 1) := by decide +kernel
theorem dX6_draw_6 : decode cX6_draw 6 = .ok (.ldc2_w 175, 3) := by decide +kernel
theorem dX6_draw_9 : decode cX6_draw 9 = .ok (.lmul, 1) := by decide +kernel
theorem dX6_draw_10 : decode cX6_draw 10 = .ok (.ldc2_w 177, 3) := by decide +kernel
theorem dX6_draw_13 : decode cX6_draw 13 = .ok (.ladd, 1) := by decide +kernel
theorem dX6_draw_14 : decode cX6_draw 14 = .ok (.ldc2_w 179, 3) := by decide +kernel
theorem dX6_draw_17 : decode cX6_draw 17 = .ok (.lrem, 1) := by decide +kernel
theorem dX6_draw_18 : decode cX6_draw 18 = .ok (.l2i, 1) := by decide +kernel
theorem dX6_draw_19 : decode cX6_draw 19 = .ok (.putfield 172, 3) := by decide +kernel
theorem dX6_draw_22 : decode cX6_draw 22 = .ok (.aload_n 0, 1) := by decide +kernel
theorem dX6_draw_23 : decode cX6_draw 23 = .ok (.getfield 172, 3) := by decide +kernel
theorem dX6_draw_26 : decode cX6_draw 26 = .ok (.ldc 181, 2) := by decide +kernel
theorem dX6_draw_28 : decode cX6_draw 28 = .ok (.idiv, 1) := by decide +kernel
theorem dX6_draw_29 : decode cX6_draw 29 = .ok (.iload_n 1, 1) := by decide +kernel
theorem dX6_draw_30 : decode cX6_draw 30 = .ok (.irem, 1) := by decide +kernel
theorem dX6_draw_31 : decode cX6_draw 31 = .ok (.ireturn, 1) := by decide +kernel
theorem dX6_draws_0 : decode cX6_draws 0 = .ok (.aload_n 0, 1) := by decide +kernel
theorem dX6_draws_1 : decode cX6_draws 1 = .ok (.invokevirtual 152, 3) := by decide +kernel
theorem dX6_draws_4 : decode cX6_draws 4 = .ok (.aload_n 0, 1) := by decide +kernel
theorem dX6_draws_5 : decode cX6_draws 5 = .ok (.iconst 4, 1) := by decide +kernel
theorem dX6_draws_6 : decode cX6_draws 6 = .ok (.invokevirtual 182, 3) := by decide +kernel
theorem dX6_draws_9 : decode cX6_draws 9 = .ok (.istore_n 1, 1) := by decide +kernel
theorem dX6_draws_10 : decode cX6_draws 10 = .ok (.aload_n 0, 1) := by decide +kernel
theorem dX6_draws_11 : decode cX6_draws 11 = .ok (.aload_n 0, 1) := by decide +kernel
theorem dX6_draws_12 : decode cX6_draws 12 = .ok (.invokevirtual 46, 3) := by decide +kernel
theorem dX6_draws_15 : decode cX6_draws 15 = .ok (.invokevirtual 182, 3) := by decide +kernel
theorem dX6_draws_18 : decode cX6_draws 18 = .ok (.istore_n 2, 1) := by decide +kernel
theorem dX6_draws_19 : decode cX6_draws 19 = .ok (.aload_n 0, 1) := by decide +kernel
theorem dX6_draws_20 : decode cX6_draws 20 = .ok (.bipush 30, 2) := by decide +kernel
theorem dX6_draws_22 : decode cX6_draws 22 = .ok (.invokevirtual 182, 3) := by decide +kernel
theorem dX6_draws_25 : decode cX6_draws 25 = .ok (.istore_n 3, 1) := by decide +kernel
theorem dX6_draws_26 : decode cX6_draws 26 = .ok (.aload_n 0, 1) := by decide +kernel
theorem dX6_draws_27 : decode cX6_draws 27 = .ok (.iconst 4, 1) := by decide +kernel
theorem dX6_draws_28 : decode cX6_draws 28 = .ok (.invokevirtual 182, 3) := by decide +kernel
theorem dX6_draws_31 : decode cX6_draws 31 = .ok (.istore 4, 2) := by decide +kernel
theorem dX6_draws_33 : decode cX6_draws 33 = .ok (.iload_n 1, 1) := by decide +kernel
theorem dX6_draws_34 : decode cX6_draws 34 = .ok (.iconst 2, 1) := by decide +kernel
theorem dX6_draws_35 : decode cX6_draws 35 = .ok (.if_icmp .ge 46, 3) := by decide +kernel
theorem dX6_draws_38 : decode cX6_draws 38 = .ok (.aload_n 0, 1) := by decide +kernel
theorem dX6_draws_39 : decode cX6_draws 39 = .ok (.getfield 7, 3) := by decide +kernel
theorem dX6_draws_42 : decode cX6_draws 42 = .ok (.iconst 3, 1) := by decide +kernel
theorem dX6_draws_43 : decode cX6_draws 43 = .ok (.iaload, 1) := by decide +kernel
theorem dX6_draws_44 : decode cX6_draws 44 = .ok (.bipush 9, 2) := by decide +kernel
theorem dX6_draws_46 : decode cX6_draws 46 = .ok (.if_icmp .ge 92, 3) := by decide +kernel
theorem dX6_draws_49 : decode cX6_draws 49 = .ok (.aload_n 0, 1) := by decide +kernel
theorem dX6_draws_50 : decode cX6_draws 50 = .ok (.getfield 7, 3) := by decide +kernel
theorem dX6_draws_53 : decode cX6_draws 53 = .ok (.iconst 2, 1) := by decide +kernel
theorem dX6_draws_54 : decode cX6_draws 54 = .ok (.iaload, 1) := by decide +kernel
theorem dX6_draws_55 : decode cX6_draws 55 = .ok (.iload_n 3, 1) := by decide +kernel
theorem dX6_draws_56 : decode cX6_draws 56 = .ok (.iadd, 1) := by decide +kernel
theorem dX6_draws_57 : decode cX6_draws 57 = .ok (.bipush 99, 2) := by decide +kernel
theorem dX6_draws_59 : decode cX6_draws 59 = .ok (.if_icmp .gt 79, 3) := by decide +kernel
theorem dX6_draws_62 : decode cX6_draws 62 = .ok (.aload_n 0, 1) := by decide +kernel
theorem dX6_draws_63 : decode cX6_draws 63 = .ok (.aload_n 0, 1) := by decide +kernel
theorem dX6_draws_64 : decode cX6_draws 64 = .ok (.getfield 7, 3) := by decide +kernel
theorem dX6_draws_67 : decode cX6_draws 67 = .ok (.iconst 2, 1) := by decide +kernel
theorem dX6_draws_68 : decode cX6_draws 68 = .ok (.iaload, 1) := by decide +kernel
theorem dX6_draws_69 : decode cX6_draws 69 = .ok (.iload_n 3, 1) := by decide +kernel
theorem dX6_draws_70 : decode cX6_draws 70 = .ok (.iadd, 1) := by decide +kernel
theorem dX6_draws_71 : decode cX6_draws 71 = .ok (.iload 4, 2) := by decide +kernel
theorem dX6_draws_73 : decode cX6_draws 73 = .ok (.iconst 1, 1) := by decide +kernel
theorem dX6_draws_74 : decode cX6_draws 74 = .ok (.iadd, 1) := by decide +kernel
theorem dX6_draws_75 : decode cX6_draws 75 = .ok (.invokevirtual 160, 3) := by decide +kernel
theorem dX6_draws_78 : decode cX6_draws 78 = .ok (.goto 60, 3) := by decide +kernel
theorem dX6_draws_81 : decode cX6_draws 81 = .ok (.iload_n 1, 1) := by decide +kernel
theorem dX6_draws_82 : decode cX6_draws 82 = .ok (.iconst 2, 1) := by decide +kernel
theorem dX6_draws_83 : decode cX6_draws 83 = .ok (.if_icmp .ne 25, 3) := by decide +kernel
theorem dX6_draws_86 : decode cX6_draws 86 = .ok (.aload_n 0, 1) := by decide +kernel
theorem dX6_draws_87 : decode cX6_draws 87 = .ok (.iconst 0, 1) := by decide +kernel
theorem dX6_draws_88 : decode cX6_draws 88 = .ok (.iload_n 2, 1) := by decide +kernel
theorem dX6_draws_89 : decode cX6_draws 89 = .ok (.invokevirtual 99, 3) := by decide +kernel
theorem dX6_draws_92 : decode cX6_draws 92 = .ok (.istore 5, 2) := by decide +kernel
theorem dX6_draws_94 : decode cX6_draws 94 = .ok (.iload 5, 2) := by decide +kernel
theorem dX6_draws_96 : decode cX6_draws 96 = .ok (.ifCond .eq 7, 3) := by decide +kernel
theorem dX6_draws_99 : decode cX6_draws 99 = .ok (.iconst 1, 1) := by decide +kernel
theorem dX6_draws_100 : decode cX6_draws 100 = .ok (.goto 4, 3) := by decide +kernel
theorem dX6_draws_103 : decode cX6_draws 103 = .ok (.iconst 0, 1) := by decide +kernel
theorem dX6_draws_104 : decode cX6_draws 104 = .ok (.istore_n 3, 1) := by decide +kernel
theorem dX6_draws_105 : decode cX6_draws 105 = .ok (.goto 33, 3) := by decide +kernel
theorem dX6_draws_108 : decode cX6_draws 108 = .ok (.aload_n 0, 1) := by decide +kernel
theorem dX6_draws_109 : decode cX6_draws 109 = .ok (.iconst 0, 1) := by decide +kernel
theorem dX6_draws_110 : decode cX6_draws 110 = .ok (.iload_n 2, 1) := by decide +kernel
theorem dX6_draws_111 : decode cX6_draws 111 = .ok (.invokevirtual 54, 3) := by decide +kernel
theorem dX6_draws_114 : decode cX6_draws 114 = .ok (.ifCond .ne 24, 3) := by decide +kernel
theorem dX6_draws_117 : decode cX6_draws 117 = .ok (.aload_n 0, 1) := by decide +kernel
theorem dX6_draws_118 : decode cX6_draws 118 = .ok (.getfield 7, 3) := by decide +kernel
theorem dX6_draws_121 : decode cX6_draws 121 = .ok (.bipush 25, 2) := by decide +kernel
theorem dX6_draws_123 : decode cX6_draws 123 = .ok (.iload_n 2, 1) := by decide +kernel
theorem dX6_draws_124 : decode cX6_draws 124 = .ok (.iadd, 1) := by decide +kernel
theorem dX6_draws_125 : decode cX6_draws 125 = .ok (.iload 4, 2) := by decide +kernel
theorem dX6_draws_127 : decode cX6_draws 127 = .ok (.iconst 1, 1) := by decide +kernel
theorem dX6_draws_128 : decode cX6_draws 128 = .ok (.if_icmp .le 8, 3) := by decide +kernel
theorem dX6_draws_131 : decode cX6_draws 131 = .ok (.iload 4, 2) := by decide +kernel
theorem dX6_draws_133 : decode cX6_draws 133 = .ok (.goto 4, 3) := by decide +kernel
theorem dX6_draws_136 : decode cX6_draws 136 = .ok (.iconst 1, 1) := by decide +kernel
theorem dX6_draws_137 : decode cX6_draws 137 = .ok (.iastore, 1) := by decide +kernel
theorem dX6_draws_138 : decode cX6_draws 138 = .ok (.return_, 1) := by decide +kernel
theorem dX6_drift_0 : decode cX6_drift 0 = .ok (.iload_n 1, 1) := by decide +kernel
theorem dX6_drift_1 : decode cX6_drift 1 = .ok (.i2l, 1) := by decide +kernel
theorem dX6_drift_2 : decode cX6_drift 2 = .ok (.lconst 1, 1) := by decide +kernel
theorem dX6_drift_3 : decode cX6_drift 3 = .ok (.ldc2_w 185, 3) := by decide +kernel
theorem dX6_drift_6 : decode cX6_drift 6 = .ok (.invokestatic 50, 3) := by decide +kernel
theorem dX6_drift_9 : decode cX6_drift 9 = .ok (.ifCond .ne 6, 3) := by decide +kernel
theorem dX6_drift_12 : decode cX6_drift 12 = .ok (.ldc 132, 2) := by decide +kernel
theorem dX6_drift_14 : decode cX6_drift 14 = .ok (.ireturn, 1) := by decide +kernel
theorem dX6_drift_15 : decode cX6_drift 15 = .ok (.iconst 0, 1) := by decide +kernel
theorem dX6_drift_16 : decode cX6_drift 16 = .ok (.istore_n 2, 1) := by decide +kernel
theorem dX6_drift_17 : decode cX6_drift 17 = .ok (.iload_n 2, 1) := by decide +kernel
theorem dX6_drift_18 : decode cX6_drift 18 = .ok (.iload_n 1, 1) := by decide +kernel
theorem dX6_drift_19 : decode cX6_drift 19 = .ok (.if_icmp .ge 13, 3) := by decide +kernel
theorem dX6_drift_22 : decode cX6_drift 22 = .ok (.aload_n 0, 1) := by decide +kernel
theorem dX6_drift_23 : decode cX6_drift 23 = .ok (.invokevirtual 187, 3) := by decide +kernel
theorem dX6_drift_26 : decode cX6_drift 26 = .ok (.iinc 2 1, 3) := by decide +kernel
theorem dX6_drift_29 : decode cX6_drift 29 = .ok (.goto (-12), 3) := by decide +kernel
theorem dX6_drift_32 : decode cX6_drift 32 = .ok (.aload_n 0, 1) := by decide +kernel
theorem dX6_drift_33 : decode cX6_drift 33 = .ok (.invokevirtual 111, 3) := by decide +kernel
theorem dX6_drift_36 : decode cX6_drift 36 = .ok (.invokestatic 149, 3) := by decide +kernel
theorem dX6_drift_39 : decode cX6_drift 39 = .ok (.ireturn, 1) := by decide +kernel
theorem dX6_undo_0 : decode cX6_undo 0 = .ok (.iload_n 1, 1) := by decide +kernel
theorem dX6_undo_1 : decode cX6_undo 1 = .ok (.i2l, 1) := by decide +kernel
theorem dX6_undo_2 : decode cX6_undo 2 = .ok (.lconst 1, 1) := by decide +kernel
theorem dX6_undo_3 : decode cX6_undo 3 = .ok (.ldc2_w 185, 3) := by decide +kernel
theorem dX6_undo_6 : decode cX6_undo 6 = .ok (.invokestatic 50, 3) := by decide +kernel
theorem dX6_undo_9 : decode cX6_undo 9 = .ok (.ifCond .ne 6, 3) := by decide +kernel
theorem dX6_undo_12 : decode cX6_undo 12 = .ok (.ldc 132, 2) := by decide +kernel
theorem dX6_undo_14 : decode cX6_undo 14 = .ok (.ireturn, 1) := by decide +kernel
theorem dX6_undo_15 : decode cX6_undo 15 = .ok (.iload_n 1, 1) := by decide +kernel
theorem dX6_undo_16 : decode cX6_undo 16 = .ok (.aload_n 0, 1) := by decide +kernel
theorem dX6_undo_17 : decode cX6_undo 17 = .ok (.getfield 39, 3) := by decide +kernel
theorem dX6_undo_20 : decode cX6_undo 20 = .ok (.if_icmp .le 6, 3) := by decide +kernel
theorem dX6_undo_23 : decode cX6_undo 23 = .ok (.ldc 165, 2) := by decide +kernel
theorem dX6_undo_25 : decode cX6_undo 25 = .ok (.ireturn, 1) := by decide +kernel
theorem dX6_undo_26 : decode cX6_undo 26 = .ok (.aload_n 0, 1) := by decide +kernel
theorem dX6_undo_27 : decode cX6_undo 27 = .ok (.dup, 1) := by decide +kernel
theorem dX6_undo_28 : decode cX6_undo 28 = .ok (.getfield 39, 3) := by decide +kernel
theorem dX6_undo_31 : decode cX6_undo 31 = .ok (.iload_n 1, 1) := by decide +kernel
theorem dX6_undo_32 : decode cX6_undo 32 = .ok (.isub, 1) := by decide +kernel
theorem dX6_undo_33 : decode cX6_undo 33 = .ok (.putfield 39, 3) := by decide +kernel
theorem dX6_undo_36 : decode cX6_undo 36 = .ok (.aload_n 0, 1) := by decide +kernel
theorem dX6_undo_37 : decode cX6_undo 37 = .ok (.sipush 260, 3) := by decide +kernel
theorem dX6_undo_40 : decode cX6_undo 40 = .ok (.bipush 52, 2) := by decide +kernel
theorem dX6_undo_42 : decode cX6_undo 42 = .ok (.aload_n 0, 1) := by decide +kernel
theorem dX6_undo_43 : decode cX6_undo 43 = .ok (.getfield 39, 3) := by decide +kernel
theorem dX6_undo_46 : decode cX6_undo 46 = .ok (.imul, 1) := by decide +kernel
theorem dX6_undo_47 : decode cX6_undo 47 = .ok (.iadd, 1) := by decide +kernel
theorem dX6_undo_48 : decode cX6_undo 48 = .ok (.iconst 0, 1) := by decide +kernel
theorem dX6_undo_49 : decode cX6_undo 49 = .ok (.invokevirtual 43, 3) := by decide +kernel
theorem dX6_undo_52 : decode cX6_undo 52 = .ok (.aload_n 0, 1) := by decide +kernel
theorem dX6_undo_53 : decode cX6_undo 53 = .ok (.getfield 7, 3) := by decide +kernel
theorem dX6_undo_56 : decode cX6_undo 56 = .ok (.iconst 2, 1) := by decide +kernel
theorem dX6_undo_57 : decode cX6_undo 57 = .ok (.iaload, 1) := by decide +kernel
theorem dX6_undo_58 : decode cX6_undo 58 = .ok (.ireturn, 1) := by decide +kernel
theorem dX6_best_0 : decode cX6_best 0 = .ok (.aload_n 0, 1) := by decide +kernel
theorem dX6_best_1 : decode cX6_best 1 = .ok (.invokevirtual 105, 3) := by decide +kernel
theorem dX6_best_4 : decode cX6_best 4 = .ok (.iload_n 1, 1) := by decide +kernel
theorem dX6_best_5 : decode cX6_best 5 = .ok (.i2l, 1) := by decide +kernel
theorem dX6_best_6 : decode cX6_best 6 = .ok (.lconst 0, 1) := by decide +kernel
theorem dX6_best_7 : decode cX6_best 7 = .ok (.aload_n 0, 1) := by decide +kernel
theorem dX6_best_8 : decode cX6_best 8 = .ok (.getfield 86, 3) := by decide +kernel
theorem dX6_best_11 : decode cX6_best 11 = .ok (.iconst 1, 1) := by decide +kernel
theorem dX6_best_12 : decode cX6_best 12 = .ok (.isub, 1) := by decide +kernel
theorem dX6_best_13 : decode cX6_best 13 = .ok (.i2l, 1) := by decide +kernel
theorem dX6_best_14 : decode cX6_best 14 = .ok (.invokestatic 50, 3) := by decide +kernel
theorem dX6_best_17 : decode cX6_best 17 = .ok (.ifCond .eq 12, 3) := by decide +kernel
theorem dX6_best_20 : decode cX6_best 20 = .ok (.aload_n 0, 1) := by decide +kernel
theorem dX6_best_21 : decode cX6_best 21 = .ok (.getfield 26, 3) := by decide +kernel
theorem dX6_best_24 : decode cX6_best 24 = .ok (.iload_n 1, 1) := by decide +kernel
theorem dX6_best_25 : decode cX6_best 25 = .ok (.iaload, 1) := by decide +kernel
theorem dX6_best_26 : decode cX6_best 26 = .ok (.goto 4, 3) := by decide +kernel
theorem dX6_best_29 : decode cX6_best 29 = .ok (.iconst (-1), 1) := by decide +kernel
theorem dX6_best_30 : decode cX6_best 30 = .ok (.ireturn, 1) := by decide +kernel
theorem dX6_stop_0 : decode cX6_stop 0 = .ok (.iload_n 1, 1) := by decide +kernel
theorem dX6_stop_1 : decode cX6_stop 1 = .ok (.i2l, 1) := by decide +kernel
theorem dX6_stop_2 : decode cX6_stop 2 = .ok (.lconst 0, 1) := by decide +kernel
theorem dX6_stop_3 : decode cX6_stop 3 = .ok (.lconst 1, 1) := by decide +kernel
theorem dX6_stop_4 : decode cX6_stop 4 = .ok (.invokestatic 50, 3) := by decide +kernel
theorem dX6_stop_7 : decode cX6_stop 7 = .ok (.ifCond .ne 6, 3) := by decide +kernel
theorem dX6_stop_10 : decode cX6_stop 10 = .ok (.ldc 132, 2) := by decide +kernel
theorem dX6_stop_12 : decode cX6_stop 12 = .ok (.ireturn, 1) := by decide +kernel
theorem dX6_stop_13 : decode cX6_stop 13 = .ok (.aload_n 0, 1) := by decide +kernel
theorem dX6_stop_14 : decode cX6_stop 14 = .ok (.invokevirtual 105, 3) := by decide +kernel
theorem dX6_stop_17 : decode cX6_stop 17 = .ok (.aload_n 0, 1) := by decide +kernel
theorem dX6_stop_18 : decode cX6_stop 18 = .ok (.getfield 86, 3) := by decide +kernel
theorem dX6_stop_21 : decode cX6_stop 21 = .ok (.iconst (-1), 1) := by decide +kernel
theorem dX6_stop_22 : decode cX6_stop 22 = .ok (.if_icmp .ne 5, 3) := by decide +kernel
theorem dX6_stop_25 : decode cX6_stop 25 = .ok (.iconst (-1), 1) := by decide +kernel
theorem dX6_stop_26 : decode cX6_stop 26 = .ok (.ireturn, 1) := by decide +kernel
theorem dX6_stop_27 : decode cX6_stop 27 = .ok (.aload_n 0, 1) := by decide +kernel
theorem dX6_stop_28 : decode cX6_stop 28 = .ok (.iconst 0, 1) := by decide +kernel
theorem dX6_stop_29 : decode cX6_stop 29 = .ok (.bipush 52, 2) := by decide +kernel
theorem dX6_stop_31 : decode cX6_stop 31 = .ok (.invokevirtual 43, 3) := by decide +kernel
theorem dX6_stop_34 : decode cX6_stop 34 = .ok (.aload_n 0, 1) := by decide +kernel
theorem dX6_stop_35 : decode cX6_stop 35 = .ok (.bipush 52, 2) := by decide +kernel
theorem dX6_stop_37 : decode cX6_stop 37 = .ok (.iconst 1, 1) := by decide +kernel
theorem dX6_stop_38 : decode cX6_stop 38 = .ok (.invokevirtual 82, 3) := by decide +kernel
theorem dX6_stop_41 : decode cX6_stop 41 = .ok (.istore_n 2, 1) := by decide +kernel
theorem dX6_stop_42 : decode cX6_stop 42 = .ok (.iconst 0, 1) := by decide +kernel
theorem dX6_stop_43 : decode cX6_stop 43 = .ok (.istore_n 3, 1) := by decide +kernel
theorem dX6_stop_44 : decode cX6_stop 44 = .ok (.iconst 0, 1) := by decide +kernel
theorem dX6_stop_45 : decode cX6_stop 45 = .ok (.istore 4, 2) := by decide +kernel
theorem dX6_stop_47 : decode cX6_stop 47 = .ok (.iload 4, 2) := by decide +kernel
theorem dX6_stop_49 : decode cX6_stop 49 = .ok (.aload_n 0, 1) := by decide +kernel
theorem dX6_stop_50 : decode cX6_stop 50 = .ok (.getfield 86, 3) := by decide +kernel
theorem dX6_stop_53 : decode cX6_stop 53 = .ok (.if_icmp .ge 70, 3) := by decide +kernel
theorem dX6_stop_56 : decode cX6_stop 56 = .ok (.aload_n 0, 1) := by decide +kernel
theorem dX6_stop_57 : decode cX6_stop 57 = .ok (.bipush 52, 2) := by decide +kernel
theorem dX6_stop_59 : decode cX6_stop 59 = .ok (.aload_n 0, 1) := by decide +kernel
theorem dX6_stop_60 : decode cX6_stop 60 = .ok (.getfield 26, 3) := by decide +kernel
theorem dX6_stop_63 : decode cX6_stop 63 = .ok (.iload 4, 2) := by decide +kernel
theorem dX6_stop_65 : decode cX6_stop 65 = .ok (.iaload, 1) := by decide +kernel
theorem dX6_stop_66 : decode cX6_stop 66 = .ok (.invokevirtual 99, 3) := by decide +kernel
theorem dX6_stop_69 : decode cX6_stop 69 = .ok (.istore 5, 2) := by decide +kernel
theorem dX6_stop_71 : decode cX6_stop 71 = .ok (.iload 5, 2) := by decide +kernel
theorem dX6_stop_73 : decode cX6_stop 73 = .ok (.ifCond .eq 13, 3) := by decide +kernel
theorem dX6_stop_76 : decode cX6_stop 76 = .ok (.aload_n 0, 1) := by decide +kernel
theorem dX6_stop_77 : decode cX6_stop 77 = .ok (.bipush 52, 2) := by decide +kernel
theorem dX6_stop_79 : decode cX6_stop 79 = .ok (.iconst 1, 1) := by decide +kernel
theorem dX6_stop_80 : decode cX6_stop 80 = .ok (.invokevirtual 82, 3) := by decide +kernel
theorem dX6_stop_83 : decode cX6_stop 83 = .ok (.goto 4, 3) := by decide +kernel
theorem dX6_stop_86 : decode cX6_stop 86 = .ok (.iload_n 2, 1) := by decide +kernel
theorem dX6_stop_87 : decode cX6_stop 87 = .ok (.istore 6, 2) := by decide +kernel
theorem dX6_stop_89 : decode cX6_stop 89 = .ok (.iload 6, 2) := by decide +kernel
theorem dX6_stop_91 : decode cX6_stop 91 = .ok (.iload_n 2, 1) := by decide +kernel
theorem dX6_stop_92 : decode cX6_stop 92 = .ok (.if_icmp .ge 10, 3) := by decide +kernel
theorem dX6_stop_95 : decode cX6_stop 95 = .ok (.iload 4, 2) := by decide +kernel
theorem dX6_stop_97 : decode cX6_stop 97 = .ok (.iconst 1, 1) := by decide +kernel
theorem dX6_stop_98 : decode cX6_stop 98 = .ok (.iadd, 1) := by decide +kernel
theorem dX6_stop_99 : decode cX6_stop 99 = .ok (.goto 4, 3) := by decide +kernel
theorem dX6_stop_102 : decode cX6_stop 102 = .ok (.iload_n 3, 1) := by decide +kernel
theorem dX6_stop_103 : decode cX6_stop 103 = .ok (.istore_n 3, 1) := by decide +kernel
theorem dX6_stop_104 : decode cX6_stop 104 = .ok (.iload 6, 2) := by decide +kernel
theorem dX6_stop_106 : decode cX6_stop 106 = .ok (.iload_n 2, 1) := by decide +kernel
theorem dX6_stop_107 : decode cX6_stop 107 = .ok (.if_icmp .ge 8, 3) := by decide +kernel
theorem dX6_stop_110 : decode cX6_stop 110 = .ok (.iload 6, 2) := by decide +kernel
theorem dX6_stop_112 : decode cX6_stop 112 = .ok (.goto 4, 3) := by decide +kernel
theorem dX6_stop_115 : decode cX6_stop 115 = .ok (.iload_n 2, 1) := by decide +kernel
theorem dX6_stop_116 : decode cX6_stop 116 = .ok (.istore_n 2, 1) := by decide +kernel
theorem dX6_stop_117 : decode cX6_stop 117 = .ok (.iinc 4 1, 3) := by decide +kernel
theorem dX6_stop_120 : decode cX6_stop 120 = .ok (.goto (-73), 3) := by decide +kernel
theorem dX6_stop_123 : decode cX6_stop 123 = .ok (.iload_n 1, 1) := by decide +kernel
theorem dX6_stop_124 : decode cX6_stop 124 = .ok (.ifCond .ne 7, 3) := by decide +kernel
theorem dX6_stop_127 : decode cX6_stop 127 = .ok (.iload_n 2, 1) := by decide +kernel
theorem dX6_stop_128 : decode cX6_stop 128 = .ok (.goto 4, 3) := by decide +kernel
theorem dX6_stop_131 : decode cX6_stop 131 = .ok (.iload_n 3, 1) := by decide +kernel
theorem dX6_stop_132 : decode cX6_stop 132 = .ok (.ireturn, 1) := by decide +kernel
theorem dX6_write_0 : decode cX6_write 0 = .ok (.aload_n 0, 1) := by decide +kernel
theorem dX6_write_1 : decode cX6_write 1 = .ok (.iconst 0, 1) := by decide +kernel
theorem dX6_write_2 : decode cX6_write 2 = .ok (.iload_n 1, 1) := by decide +kernel
theorem dX6_write_3 : decode cX6_write 3 = .ok (.invokevirtual 70, 3) := by decide +kernel
theorem dX6_write_6 : decode cX6_write 6 = .ok (.iconst (-1), 1) := by decide +kernel
theorem dX6_write_7 : decode cX6_write 7 = .ok (.if_icmp .ne 6, 3) := by decide +kernel
theorem dX6_write_10 : decode cX6_write 10 = .ok (.ldc 137, 2) := by decide +kernel
theorem dX6_write_12 : decode cX6_write 12 = .ok (.ireturn, 1) := by decide +kernel
theorem dX6_write_13 : decode cX6_write 13 = .ok (.aload_n 0, 1) := by decide +kernel
theorem dX6_write_14 : decode cX6_write 14 = .ok (.getfield 108, 3) := by decide +kernel
theorem dX6_write_17 : decode cX6_write 17 = .ok (.bipush 20, 2) := by decide +kernel
theorem dX6_write_19 : decode cX6_write 19 = .ok (.if_icmp .ne 6, 3) := by decide +kernel
theorem dX6_write_22 : decode cX6_write 22 = .ok (.ldc 159, 2) := by decide +kernel
theorem dX6_write_24 : decode cX6_write 24 = .ok (.ireturn, 1) := by decide +kernel
theorem dX6_write_25 : decode cX6_write 25 = .ok (.aload_n 0, 1) := by decide +kernel
theorem dX6_write_26 : decode cX6_write 26 = .ok (.getfield 20, 3) := by decide +kernel
theorem dX6_write_29 : decode cX6_write 29 = .ok (.aload_n 0, 1) := by decide +kernel
theorem dX6_write_30 : decode cX6_write 30 = .ok (.getfield 108, 3) := by decide +kernel
theorem dX6_write_33 : decode cX6_write 33 = .ok (.iload_n 1, 1) := by decide +kernel
theorem dX6_write_34 : decode cX6_write 34 = .ok (.iastore, 1) := by decide +kernel
theorem dX6_write_35 : decode cX6_write 35 = .ok (.aload_n 0, 1) := by decide +kernel
theorem dX6_write_36 : decode cX6_write 36 = .ok (.getfield 23, 3) := by decide +kernel
theorem dX6_write_39 : decode cX6_write 39 = .ok (.aload_n 0, 1) := by decide +kernel
theorem dX6_write_40 : decode cX6_write 40 = .ok (.getfield 108, 3) := by decide +kernel
theorem dX6_write_43 : decode cX6_write 43 = .ok (.iload_n 2, 1) := by decide +kernel
theorem dX6_write_44 : decode cX6_write 44 = .ok (.bastore, 1) := by decide +kernel
theorem dX6_write_45 : decode cX6_write 45 = .ok (.aload_n 0, 1) := by decide +kernel
theorem dX6_write_46 : decode cX6_write 46 = .ok (.dup, 1) := by decide +kernel
theorem dX6_write_47 : decode cX6_write 47 = .ok (.getfield 108, 3) := by decide +kernel
theorem dX6_write_50 : decode cX6_write 50 = .ok (.iconst 1, 1) := by decide +kernel
theorem dX6_write_51 : decode cX6_write 51 = .ok (.iadd, 1) := by decide +kernel
theorem dX6_write_52 : decode cX6_write 52 = .ok (.putfield 108, 3) := by decide +kernel
theorem dX6_write_55 : decode cX6_write 55 = .ok (.aload_n 0, 1) := by decide +kernel
theorem dX6_write_56 : decode cX6_write 56 = .ok (.getfield 108, 3) := by decide +kernel
theorem dX6_write_59 : decode cX6_write 59 = .ok (.ireturn, 1) := by decide +kernel
theorem dX6_tear_0 : decode cX6_tear 0 = .ok (.aload_n 0, 1) := by decide +kernel
theorem dX6_tear_1 : decode cX6_tear 1 = .ok (.getfield 108, 3) := by decide +kernel
theorem dX6_tear_4 : decode cX6_tear 4 = .ok (.istore_n 1, 1) := by decide +kernel
theorem dX6_tear_5 : decode cX6_tear 5 = .ok (.aload_n 0, 1) := by decide +kernel
theorem dX6_tear_6 : decode cX6_tear 6 = .ok (.iconst 0, 1) := by decide +kernel
theorem dX6_tear_7 : decode cX6_tear 7 = .ok (.putfield 108, 3) := by decide +kernel
theorem dX6_tear_10 : decode cX6_tear 10 = .ok (.iload_n 1, 1) := by decide +kernel
theorem dX6_tear_11 : decode cX6_tear 11 = .ok (.ireturn, 1) := by decide +kernel
theorem dX6_seed_0 : decode cX6_seed 0 = .ok (.iload_n 1, 1) := by decide +kernel
theorem dX6_seed_1 : decode cX6_seed 1 = .ok (.ifCond .ge 6, 3) := by decide +kernel
theorem dX6_seed_4 : decode cX6_seed 4 = .ok (.ldc 132, 2) := by decide +kernel
theorem dX6_seed_6 : decode cX6_seed 6 = .ok (.ireturn, 1) := by decide +kernel
theorem dX6_seed_7 : decode cX6_seed 7 = .ok (.aload_n 0, 1) := by decide +kernel
theorem dX6_seed_8 : decode cX6_seed 8 = .ok (.getfield 172, 3) := by decide +kernel
theorem dX6_seed_11 : decode cX6_seed 11 = .ok (.istore_n 2, 1) := by decide +kernel
theorem dX6_seed_12 : decode cX6_seed 12 = .ok (.aload_n 0, 1) := by decide +kernel
theorem dX6_seed_13 : decode cX6_seed 13 = .ok (.iload_n 1, 1) := by decide +kernel
theorem dX6_seed_14 : decode cX6_seed 14 = .ok (.putfield 172, 3) := by decide +kernel
theorem dX6_seed_17 : decode cX6_seed 17 = .ok (.iload_n 2, 1) := by decide +kernel
theorem dX6_seed_18 : decode cX6_seed 18 = .ok (.ireturn, 1) := by decide +kernel
theorem dX6_keep_0 : decode cX6_keep 0 = .ok (.iload_n 1, 1) := by decide +kernel
theorem dX6_keep_1 : decode cX6_keep 1 = .ok (.i2l, 1) := by decide +kernel
theorem dX6_keep_2 : decode cX6_keep 2 = .ok (.lconst 0, 1) := by decide +kernel
theorem dX6_keep_3 : decode cX6_keep 3 = .ok (.lconst 1, 1) := by decide +kernel
theorem dX6_keep_4 : decode cX6_keep 4 = .ok (.invokestatic 50, 3) := by decide +kernel
theorem dX6_keep_7 : decode cX6_keep 7 = .ok (.ifCond .ne 6, 3) := by decide +kernel
theorem dX6_keep_10 : decode cX6_keep 10 = .ok (.ldc 137, 2) := by decide +kernel
theorem dX6_keep_12 : decode cX6_keep 12 = .ok (.ireturn, 1) := by decide +kernel
theorem dX6_keep_13 : decode cX6_keep 13 = .ok (.aload_n 0, 1) := by decide +kernel
theorem dX6_keep_14 : decode cX6_keep 14 = .ok (.iconst 0, 1) := by decide +kernel
theorem dX6_keep_15 : decode cX6_keep 15 = .ok (.sipush 156, 3) := by decide +kernel
theorem dX6_keep_18 : decode cX6_keep 18 = .ok (.bipush 52, 2) := by decide +kernel
theorem dX6_keep_20 : decode cX6_keep 20 = .ok (.iload_n 1, 1) := by decide +kernel
theorem dX6_keep_21 : decode cX6_keep 21 = .ok (.imul, 1) := by decide +kernel
theorem dX6_keep_22 : decode cX6_keep 22 = .ok (.iadd, 1) := by decide +kernel
theorem dX6_keep_23 : decode cX6_keep 23 = .ok (.invokevirtual 43, 3) := by decide +kernel
theorem dX6_keep_26 : decode cX6_keep 26 = .ok (.aload_n 0, 1) := by decide +kernel
theorem dX6_keep_27 : decode cX6_keep 27 = .ok (.getfield 13, 3) := by decide +kernel
theorem dX6_keep_30 : decode cX6_keep 30 = .ok (.iload_n 1, 1) := by decide +kernel
theorem dX6_keep_31 : decode cX6_keep 31 = .ok (.aload_n 0, 1) := by decide +kernel
theorem dX6_keep_32 : decode cX6_keep 32 = .ok (.getfield 172, 3) := by decide +kernel
theorem dX6_keep_35 : decode cX6_keep 35 = .ok (.iastore, 1) := by decide +kernel
theorem dX6_keep_36 : decode cX6_keep 36 = .ok (.aload_n 0, 1) := by decide +kernel
theorem dX6_keep_37 : decode cX6_keep 37 = .ok (.getfield 16, 3) := by decide +kernel
theorem dX6_keep_40 : decode cX6_keep 40 = .ok (.iload_n 1, 1) := by decide +kernel
theorem dX6_keep_41 : decode cX6_keep 41 = .ok (.iconst 1, 1) := by decide +kernel
theorem dX6_keep_42 : decode cX6_keep 42 = .ok (.bastore, 1) := by decide +kernel
theorem dX6_keep_43 : decode cX6_keep 43 = .ok (.aload_n 0, 1) := by decide +kernel
theorem dX6_keep_44 : decode cX6_keep 44 = .ok (.iconst 0, 1) := by decide +kernel
theorem dX6_keep_45 : decode cX6_keep 45 = .ok (.putfield 39, 3) := by decide +kernel
theorem dX6_keep_48 : decode cX6_keep 48 = .ok (.iconst 1, 1) := by decide +kernel
theorem dX6_keep_49 : decode cX6_keep 49 = .ok (.ireturn, 1) := by decide +kernel
theorem dX6_goBack_0 : decode cX6_goBack 0 = .ok (.iload_n 1, 1) := by decide +kernel
theorem dX6_goBack_1 : decode cX6_goBack 1 = .ok (.i2l, 1) := by decide +kernel
theorem dX6_goBack_2 : decode cX6_goBack 2 = .ok (.lconst 0, 1) := by decide +kernel
theorem dX6_goBack_3 : decode cX6_goBack 3 = .ok (.lconst 1, 1) := by decide +kernel
theorem dX6_goBack_4 : decode cX6_goBack 4 = .ok (.invokestatic 50, 3) := by decide +kernel
theorem dX6_goBack_7 : decode cX6_goBack 7 = .ok (.ifCond .ne 6, 3) := by decide +kernel
theorem dX6_goBack_10 : decode cX6_goBack 10 = .ok (.ldc 137, 2) := by decide +kernel
theorem dX6_goBack_12 : decode cX6_goBack 12 = .ok (.ireturn, 1) := by decide +kernel
theorem dX6_goBack_13 : decode cX6_goBack 13 = .ok (.aload_n 0, 1) := by decide +kernel
theorem dX6_goBack_14 : decode cX6_goBack 14 = .ok (.getfield 16, 3) := by decide +kernel
theorem dX6_goBack_17 : decode cX6_goBack 17 = .ok (.iload_n 1, 1) := by decide +kernel
theorem dX6_goBack_18 : decode cX6_goBack 18 = .ok (.baload, 1) := by decide +kernel
theorem dX6_goBack_19 : decode cX6_goBack 19 = .ok (.ifCond .ne 6, 3) := by decide +kernel
theorem dX6_goBack_22 : decode cX6_goBack 22 = .ok (.ldc 165, 2) := by decide +kernel
theorem dX6_goBack_24 : decode cX6_goBack 24 = .ok (.ireturn, 1) := by decide +kernel
theorem dX6_goBack_25 : decode cX6_goBack 25 = .ok (.aload_n 0, 1) := by decide +kernel
theorem dX6_goBack_26 : decode cX6_goBack 26 = .ok (.sipush 156, 3) := by decide +kernel
theorem dX6_goBack_29 : decode cX6_goBack 29 = .ok (.bipush 52, 2) := by decide +kernel
theorem dX6_goBack_31 : decode cX6_goBack 31 = .ok (.iload_n 1, 1) := by decide +kernel
theorem dX6_goBack_32 : decode cX6_goBack 32 = .ok (.imul, 1) := by decide +kernel
theorem dX6_goBack_33 : decode cX6_goBack 33 = .ok (.iadd, 1) := by decide +kernel
theorem dX6_goBack_34 : decode cX6_goBack 34 = .ok (.iconst 0, 1) := by decide +kernel
theorem dX6_goBack_35 : decode cX6_goBack 35 = .ok (.invokevirtual 43, 3) := by decide +kernel
theorem dX6_goBack_38 : decode cX6_goBack 38 = .ok (.aload_n 0, 1) := by decide +kernel
theorem dX6_goBack_39 : decode cX6_goBack 39 = .ok (.aload_n 0, 1) := by decide +kernel
theorem dX6_goBack_40 : decode cX6_goBack 40 = .ok (.getfield 13, 3) := by decide +kernel
theorem dX6_goBack_43 : decode cX6_goBack 43 = .ok (.iload_n 1, 1) := by decide +kernel
theorem dX6_goBack_44 : decode cX6_goBack 44 = .ok (.iaload, 1) := by decide +kernel
theorem dX6_goBack_45 : decode cX6_goBack 45 = .ok (.putfield 172, 3) := by decide +kernel
theorem dX6_goBack_48 : decode cX6_goBack 48 = .ok (.aload_n 0, 1) := by decide +kernel
theorem dX6_goBack_49 : decode cX6_goBack 49 = .ok (.iconst 0, 1) := by decide +kernel
theorem dX6_goBack_50 : decode cX6_goBack 50 = .ok (.putfield 39, 3) := by decide +kernel
theorem dX6_goBack_53 : decode cX6_goBack 53 = .ok (.iconst 1, 1) := by decide +kernel
theorem dX6_goBack_54 : decode cX6_goBack 54 = .ok (.ireturn, 1) := by decide +kernel
end
section
theorem dL_law_0 : decode cL_law 0 = .ok (.new 7, 3) := by decide +kernel
theorem dL_law_3 : decode cL_law 3 = .ok (.dup, 1) := by decide +kernel
theorem dL_law_4 : decode cL_law 4 = .ok (.invokespecial 9, 3) := by decide +kernel
theorem dL_law_7 : decode cL_law 7 = .ok (.astore_n 1, 1) := by decide +kernel
theorem dL_law_8 : decode cL_law 8 = .ok (.new 10, 3) := by decide +kernel
theorem dL_law_11 : decode cL_law 11 = .ok (.dup, 1) := by decide +kernel
theorem dL_law_12 : decode cL_law 12 = .ok (.invokespecial 12, 3) := by decide +kernel
theorem dL_law_15 : decode cL_law 15 = .ok (.astore_n 2, 1) := by decide +kernel
theorem dL_law_16 : decode cL_law 16 = .ok (.iconst 0, 1) := by decide +kernel
theorem dL_law_17 : decode cL_law 17 = .ok (.istore_n 3, 1) := by decide +kernel
theorem dL_law_18 : decode cL_law 18 = .ok (.iload_n 3, 1) := by decide +kernel
theorem dL_law_19 : decode cL_law 19 = .ok (.aload_n 0, 1) := by decide +kernel
theorem dL_law_20 : decode cL_law 20 = .ok (.arraylength, 1) := by decide +kernel
theorem dL_law_21 : decode cL_law 21 = .ok (.iconst 3, 1) := by decide +kernel
theorem dL_law_22 : decode cL_law 22 = .ok (.isub, 1) := by decide +kernel
theorem dL_law_23 : decode cL_law 23 = .ok (.if_icmp .gt 711, 3) := by decide +kernel
theorem dL_law_26 : decode cL_law 26 = .ok (.aload_n 0, 1) := by decide +kernel
theorem dL_law_27 : decode cL_law 27 = .ok (.iload_n 3, 1) := by decide +kernel
theorem dL_law_28 : decode cL_law 28 = .ok (.iaload, 1) := by decide +kernel
theorem dL_law_29 : decode cL_law 29 = .ok (.bipush 31, 2) := by decide +kernel
theorem dL_law_31 : decode cL_law 31 = .ok (.iand, 1) := by decide +kernel
theorem dL_law_32 : decode cL_law 32 = .ok (.tableswitch 696 0 21 #[104, 127, 160, 193, 226, 259, 292, 325, 348, 381, 414, 437, 460, 473, 496, 519, 542, 565, 614, 627, 650, 673], 104) := by decide +kernel
theorem dL_law_136 : decode cL_law 136 = .ok (.aload_n 1, 1) := by decide +kernel
theorem dL_law_137 : decode cL_law 137 = .ok (.aload_n 0, 1) := by decide +kernel
theorem dL_law_138 : decode cL_law 138 = .ok (.iload_n 3, 1) := by decide +kernel
theorem dL_law_139 : decode cL_law 139 = .ok (.iconst 1, 1) := by decide +kernel
theorem dL_law_140 : decode cL_law 140 = .ok (.iadd, 1) := by decide +kernel
theorem dL_law_141 : decode cL_law 141 = .ok (.iaload, 1) := by decide +kernel
theorem dL_law_142 : decode cL_law 142 = .ok (.invokevirtual 13, 3) := by decide +kernel
theorem dL_law_145 : decode cL_law 145 = .ok (.aload_n 2, 1) := by decide +kernel
theorem dL_law_146 : decode cL_law 146 = .ok (.aload_n 0, 1) := by decide +kernel
theorem dL_law_147 : decode cL_law 147 = .ok (.iload_n 3, 1) := by decide +kernel
theorem dL_law_148 : decode cL_law 148 = .ok (.iconst 1, 1) := by decide +kernel
theorem dL_law_149 : decode cL_law 149 = .ok (.iadd, 1) := by decide +kernel
theorem dL_law_150 : decode cL_law 150 = .ok (.iaload, 1) := by decide +kernel
theorem dL_law_151 : decode cL_law 151 = .ok (.invokevirtual 17, 3) := by decide +kernel
theorem dL_law_154 : decode cL_law 154 = .ok (.if_icmp .eq 574, 3) := by decide +kernel
theorem dL_law_157 : decode cL_law 157 = .ok (.iconst 0, 1) := by decide +kernel
theorem dL_law_158 : decode cL_law 158 = .ok (.ireturn, 1) := by decide +kernel
theorem dL_law_159 : decode cL_law 159 = .ok (.aload_n 1, 1) := by decide +kernel
theorem dL_law_160 : decode cL_law 160 = .ok (.aload_n 0, 1) := by decide +kernel
theorem dL_law_161 : decode cL_law 161 = .ok (.iload_n 3, 1) := by decide +kernel
theorem dL_law_162 : decode cL_law 162 = .ok (.iconst 1, 1) := by decide +kernel
theorem dL_law_163 : decode cL_law 163 = .ok (.iadd, 1) := by decide +kernel
theorem dL_law_164 : decode cL_law 164 = .ok (.iaload, 1) := by decide +kernel
theorem dL_law_165 : decode cL_law 165 = .ok (.aload_n 0, 1) := by decide +kernel
theorem dL_law_166 : decode cL_law 166 = .ok (.iload_n 3, 1) := by decide +kernel
theorem dL_law_167 : decode cL_law 167 = .ok (.iconst 2, 1) := by decide +kernel
theorem dL_law_168 : decode cL_law 168 = .ok (.iadd, 1) := by decide +kernel
theorem dL_law_169 : decode cL_law 169 = .ok (.iaload, 1) := by decide +kernel
theorem dL_law_170 : decode cL_law 170 = .ok (.invokevirtual 18, 3) := by decide +kernel
theorem dL_law_173 : decode cL_law 173 = .ok (.aload_n 2, 1) := by decide +kernel
theorem dL_law_174 : decode cL_law 174 = .ok (.aload_n 0, 1) := by decide +kernel
theorem dL_law_175 : decode cL_law 175 = .ok (.iload_n 3, 1) := by decide +kernel
theorem dL_law_176 : decode cL_law 176 = .ok (.iconst 1, 1) := by decide +kernel
theorem dL_law_177 : decode cL_law 177 = .ok (.iadd, 1) := by decide +kernel
theorem dL_law_178 : decode cL_law 178 = .ok (.iaload, 1) := by decide +kernel
theorem dL_law_179 : decode cL_law 179 = .ok (.aload_n 0, 1) := by decide +kernel
theorem dL_law_180 : decode cL_law 180 = .ok (.iload_n 3, 1) := by decide +kernel
theorem dL_law_181 : decode cL_law 181 = .ok (.iconst 2, 1) := by decide +kernel
theorem dL_law_182 : decode cL_law 182 = .ok (.iadd, 1) := by decide +kernel
theorem dL_law_183 : decode cL_law 183 = .ok (.iaload, 1) := by decide +kernel
theorem dL_law_184 : decode cL_law 184 = .ok (.invokevirtual 22, 3) := by decide +kernel
theorem dL_law_187 : decode cL_law 187 = .ok (.if_icmp .eq 541, 3) := by decide +kernel
theorem dL_law_190 : decode cL_law 190 = .ok (.iconst 0, 1) := by decide +kernel
theorem dL_law_191 : decode cL_law 191 = .ok (.ireturn, 1) := by decide +kernel
theorem dL_law_192 : decode cL_law 192 = .ok (.aload_n 1, 1) := by decide +kernel
theorem dL_law_193 : decode cL_law 193 = .ok (.aload_n 0, 1) := by decide +kernel
theorem dL_law_194 : decode cL_law 194 = .ok (.iload_n 3, 1) := by decide +kernel
theorem dL_law_195 : decode cL_law 195 = .ok (.iconst 1, 1) := by decide +kernel
theorem dL_law_196 : decode cL_law 196 = .ok (.iadd, 1) := by decide +kernel
theorem dL_law_197 : decode cL_law 197 = .ok (.iaload, 1) := by decide +kernel
theorem dL_law_198 : decode cL_law 198 = .ok (.aload_n 0, 1) := by decide +kernel
theorem dL_law_199 : decode cL_law 199 = .ok (.iload_n 3, 1) := by decide +kernel
theorem dL_law_200 : decode cL_law 200 = .ok (.iconst 2, 1) := by decide +kernel
theorem dL_law_201 : decode cL_law 201 = .ok (.iadd, 1) := by decide +kernel
theorem dL_law_202 : decode cL_law 202 = .ok (.iaload, 1) := by decide +kernel
theorem dL_law_203 : decode cL_law 203 = .ok (.invokevirtual 23, 3) := by decide +kernel
theorem dL_law_206 : decode cL_law 206 = .ok (.aload_n 2, 1) := by decide +kernel
theorem dL_law_207 : decode cL_law 207 = .ok (.aload_n 0, 1) := by decide +kernel
theorem dL_law_208 : decode cL_law 208 = .ok (.iload_n 3, 1) := by decide +kernel
theorem dL_law_209 : decode cL_law 209 = .ok (.iconst 1, 1) := by decide +kernel
theorem dL_law_210 : decode cL_law 210 = .ok (.iadd, 1) := by decide +kernel
theorem dL_law_211 : decode cL_law 211 = .ok (.iaload, 1) := by decide +kernel
theorem dL_law_212 : decode cL_law 212 = .ok (.aload_n 0, 1) := by decide +kernel
theorem dL_law_213 : decode cL_law 213 = .ok (.iload_n 3, 1) := by decide +kernel
theorem dL_law_214 : decode cL_law 214 = .ok (.iconst 2, 1) := by decide +kernel
theorem dL_law_215 : decode cL_law 215 = .ok (.iadd, 1) := by decide +kernel
theorem dL_law_216 : decode cL_law 216 = .ok (.iaload, 1) := by decide +kernel
theorem dL_law_217 : decode cL_law 217 = .ok (.invokevirtual 26, 3) := by decide +kernel
theorem dL_law_220 : decode cL_law 220 = .ok (.if_icmp .eq 508, 3) := by decide +kernel
theorem dL_law_223 : decode cL_law 223 = .ok (.iconst 0, 1) := by decide +kernel
theorem dL_law_224 : decode cL_law 224 = .ok (.ireturn, 1) := by decide +kernel
theorem dL_law_225 : decode cL_law 225 = .ok (.aload_n 1, 1) := by decide +kernel
theorem dL_law_226 : decode cL_law 226 = .ok (.aload_n 0, 1) := by decide +kernel
theorem dL_law_227 : decode cL_law 227 = .ok (.iload_n 3, 1) := by decide +kernel
theorem dL_law_228 : decode cL_law 228 = .ok (.iconst 1, 1) := by decide +kernel
theorem dL_law_229 : decode cL_law 229 = .ok (.iadd, 1) := by decide +kernel
theorem dL_law_230 : decode cL_law 230 = .ok (.iaload, 1) := by decide +kernel
theorem dL_law_231 : decode cL_law 231 = .ok (.aload_n 0, 1) := by decide +kernel
theorem dL_law_232 : decode cL_law 232 = .ok (.iload_n 3, 1) := by decide +kernel
theorem dL_law_233 : decode cL_law 233 = .ok (.iconst 2, 1) := by decide +kernel
theorem dL_law_234 : decode cL_law 234 = .ok (.iadd, 1) := by decide +kernel
theorem dL_law_235 : decode cL_law 235 = .ok (.iaload, 1) := by decide +kernel
theorem dL_law_236 : decode cL_law 236 = .ok (.invokevirtual 27, 3) := by decide +kernel
theorem dL_law_239 : decode cL_law 239 = .ok (.aload_n 2, 1) := by decide +kernel
theorem dL_law_240 : decode cL_law 240 = .ok (.aload_n 0, 1) := by decide +kernel
theorem dL_law_241 : decode cL_law 241 = .ok (.iload_n 3, 1) := by decide +kernel
theorem dL_law_242 : decode cL_law 242 = .ok (.iconst 1, 1) := by decide +kernel
theorem dL_law_243 : decode cL_law 243 = .ok (.iadd, 1) := by decide +kernel
theorem dL_law_244 : decode cL_law 244 = .ok (.iaload, 1) := by decide +kernel
theorem dL_law_245 : decode cL_law 245 = .ok (.aload_n 0, 1) := by decide +kernel
theorem dL_law_246 : decode cL_law 246 = .ok (.iload_n 3, 1) := by decide +kernel
theorem dL_law_247 : decode cL_law 247 = .ok (.iconst 2, 1) := by decide +kernel
theorem dL_law_248 : decode cL_law 248 = .ok (.iadd, 1) := by decide +kernel
theorem dL_law_249 : decode cL_law 249 = .ok (.iaload, 1) := by decide +kernel
theorem dL_law_250 : decode cL_law 250 = .ok (.invokevirtual 30, 3) := by decide +kernel
theorem dL_law_253 : decode cL_law 253 = .ok (.if_icmp .eq 475, 3) := by decide +kernel
theorem dL_law_256 : decode cL_law 256 = .ok (.iconst 0, 1) := by decide +kernel
theorem dL_law_257 : decode cL_law 257 = .ok (.ireturn, 1) := by decide +kernel
theorem dL_law_258 : decode cL_law 258 = .ok (.aload_n 1, 1) := by decide +kernel
theorem dL_law_259 : decode cL_law 259 = .ok (.aload_n 0, 1) := by decide +kernel
theorem dL_law_260 : decode cL_law 260 = .ok (.iload_n 3, 1) := by decide +kernel
theorem dL_law_261 : decode cL_law 261 = .ok (.iconst 1, 1) := by decide +kernel
theorem dL_law_262 : decode cL_law 262 = .ok (.iadd, 1) := by decide +kernel
theorem dL_law_263 : decode cL_law 263 = .ok (.iaload, 1) := by decide +kernel
theorem dL_law_264 : decode cL_law 264 = .ok (.aload_n 0, 1) := by decide +kernel
theorem dL_law_265 : decode cL_law 265 = .ok (.iload_n 3, 1) := by decide +kernel
theorem dL_law_266 : decode cL_law 266 = .ok (.iconst 2, 1) := by decide +kernel
theorem dL_law_267 : decode cL_law 267 = .ok (.iadd, 1) := by decide +kernel
theorem dL_law_268 : decode cL_law 268 = .ok (.iaload, 1) := by decide +kernel
theorem dL_law_269 : decode cL_law 269 = .ok (.invokevirtual 31, 3) := by decide +kernel
theorem dL_law_272 : decode cL_law 272 = .ok (.aload_n 2, 1) := by decide +kernel
theorem dL_law_273 : decode cL_law 273 = .ok (.aload_n 0, 1) := by decide +kernel
theorem dL_law_274 : decode cL_law 274 = .ok (.iload_n 3, 1) := by decide +kernel
theorem dL_law_275 : decode cL_law 275 = .ok (.iconst 1, 1) := by decide +kernel
theorem dL_law_276 : decode cL_law 276 = .ok (.iadd, 1) := by decide +kernel
theorem dL_law_277 : decode cL_law 277 = .ok (.iaload, 1) := by decide +kernel
theorem dL_law_278 : decode cL_law 278 = .ok (.aload_n 0, 1) := by decide +kernel
theorem dL_law_279 : decode cL_law 279 = .ok (.iload_n 3, 1) := by decide +kernel
theorem dL_law_280 : decode cL_law 280 = .ok (.iconst 2, 1) := by decide +kernel
theorem dL_law_281 : decode cL_law 281 = .ok (.iadd, 1) := by decide +kernel
theorem dL_law_282 : decode cL_law 282 = .ok (.iaload, 1) := by decide +kernel
theorem dL_law_283 : decode cL_law 283 = .ok (.invokevirtual 34, 3) := by decide +kernel
theorem dL_law_286 : decode cL_law 286 = .ok (.if_icmp .eq 442, 3) := by decide +kernel
theorem dL_law_289 : decode cL_law 289 = .ok (.iconst 0, 1) := by decide +kernel
theorem dL_law_290 : decode cL_law 290 = .ok (.ireturn, 1) := by decide +kernel
theorem dL_law_291 : decode cL_law 291 = .ok (.aload_n 1, 1) := by decide +kernel
theorem dL_law_292 : decode cL_law 292 = .ok (.aload_n 0, 1) := by decide +kernel
theorem dL_law_293 : decode cL_law 293 = .ok (.iload_n 3, 1) := by decide +kernel
theorem dL_law_294 : decode cL_law 294 = .ok (.iconst 1, 1) := by decide +kernel
theorem dL_law_295 : decode cL_law 295 = .ok (.iadd, 1) := by decide +kernel
theorem dL_law_296 : decode cL_law 296 = .ok (.iaload, 1) := by decide +kernel
theorem dL_law_297 : decode cL_law 297 = .ok (.aload_n 0, 1) := by decide +kernel
theorem dL_law_298 : decode cL_law 298 = .ok (.iload_n 3, 1) := by decide +kernel
theorem dL_law_299 : decode cL_law 299 = .ok (.iconst 2, 1) := by decide +kernel
theorem dL_law_300 : decode cL_law 300 = .ok (.iadd, 1) := by decide +kernel
theorem dL_law_301 : decode cL_law 301 = .ok (.iaload, 1) := by decide +kernel
theorem dL_law_302 : decode cL_law 302 = .ok (.invokevirtual 35, 3) := by decide +kernel
theorem dL_law_305 : decode cL_law 305 = .ok (.aload_n 2, 1) := by decide +kernel
theorem dL_law_306 : decode cL_law 306 = .ok (.aload_n 0, 1) := by decide +kernel
theorem dL_law_307 : decode cL_law 307 = .ok (.iload_n 3, 1) := by decide +kernel
theorem dL_law_308 : decode cL_law 308 = .ok (.iconst 1, 1) := by decide +kernel
theorem dL_law_309 : decode cL_law 309 = .ok (.iadd, 1) := by decide +kernel
theorem dL_law_310 : decode cL_law 310 = .ok (.iaload, 1) := by decide +kernel
theorem dL_law_311 : decode cL_law 311 = .ok (.aload_n 0, 1) := by decide +kernel
theorem dL_law_312 : decode cL_law 312 = .ok (.iload_n 3, 1) := by decide +kernel
theorem dL_law_313 : decode cL_law 313 = .ok (.iconst 2, 1) := by decide +kernel
theorem dL_law_314 : decode cL_law 314 = .ok (.iadd, 1) := by decide +kernel
theorem dL_law_315 : decode cL_law 315 = .ok (.iaload, 1) := by decide +kernel
theorem dL_law_316 : decode cL_law 316 = .ok (.invokevirtual 38, 3) := by decide +kernel
theorem dL_law_319 : decode cL_law 319 = .ok (.if_icmp .eq 409, 3) := by decide +kernel
theorem dL_law_322 : decode cL_law 322 = .ok (.iconst 0, 1) := by decide +kernel
theorem dL_law_323 : decode cL_law 323 = .ok (.ireturn, 1) := by decide +kernel
theorem dL_law_324 : decode cL_law 324 = .ok (.aload_n 1, 1) := by decide +kernel
theorem dL_law_325 : decode cL_law 325 = .ok (.aload_n 0, 1) := by decide +kernel
theorem dL_law_326 : decode cL_law 326 = .ok (.iload_n 3, 1) := by decide +kernel
theorem dL_law_327 : decode cL_law 327 = .ok (.iconst 1, 1) := by decide +kernel
theorem dL_law_328 : decode cL_law 328 = .ok (.iadd, 1) := by decide +kernel
theorem dL_law_329 : decode cL_law 329 = .ok (.iaload, 1) := by decide +kernel
theorem dL_law_330 : decode cL_law 330 = .ok (.aload_n 0, 1) := by decide +kernel
theorem dL_law_331 : decode cL_law 331 = .ok (.iload_n 3, 1) := by decide +kernel
theorem dL_law_332 : decode cL_law 332 = .ok (.iconst 2, 1) := by decide +kernel
theorem dL_law_333 : decode cL_law 333 = .ok (.iadd, 1) := by decide +kernel
theorem dL_law_334 : decode cL_law 334 = .ok (.iaload, 1) := by decide +kernel
theorem dL_law_335 : decode cL_law 335 = .ok (.invokevirtual 39, 3) := by decide +kernel
theorem dL_law_338 : decode cL_law 338 = .ok (.aload_n 2, 1) := by decide +kernel
theorem dL_law_339 : decode cL_law 339 = .ok (.aload_n 0, 1) := by decide +kernel
theorem dL_law_340 : decode cL_law 340 = .ok (.iload_n 3, 1) := by decide +kernel
theorem dL_law_341 : decode cL_law 341 = .ok (.iconst 1, 1) := by decide +kernel
theorem dL_law_342 : decode cL_law 342 = .ok (.iadd, 1) := by decide +kernel
theorem dL_law_343 : decode cL_law 343 = .ok (.iaload, 1) := by decide +kernel
theorem dL_law_344 : decode cL_law 344 = .ok (.aload_n 0, 1) := by decide +kernel
theorem dL_law_345 : decode cL_law 345 = .ok (.iload_n 3, 1) := by decide +kernel
theorem dL_law_346 : decode cL_law 346 = .ok (.iconst 2, 1) := by decide +kernel
theorem dL_law_347 : decode cL_law 347 = .ok (.iadd, 1) := by decide +kernel
theorem dL_law_348 : decode cL_law 348 = .ok (.iaload, 1) := by decide +kernel
theorem dL_law_349 : decode cL_law 349 = .ok (.invokevirtual 42, 3) := by decide +kernel
theorem dL_law_352 : decode cL_law 352 = .ok (.if_icmp .eq 376, 3) := by decide +kernel
theorem dL_law_355 : decode cL_law 355 = .ok (.iconst 0, 1) := by decide +kernel
theorem dL_law_356 : decode cL_law 356 = .ok (.ireturn, 1) := by decide +kernel
theorem dL_law_357 : decode cL_law 357 = .ok (.aload_n 1, 1) := by decide +kernel
theorem dL_law_358 : decode cL_law 358 = .ok (.aload_n 0, 1) := by decide +kernel
theorem dL_law_359 : decode cL_law 359 = .ok (.iload_n 3, 1) := by decide +kernel
theorem dL_law_360 : decode cL_law 360 = .ok (.iconst 1, 1) := by decide +kernel
theorem dL_law_361 : decode cL_law 361 = .ok (.iadd, 1) := by decide +kernel
theorem dL_law_362 : decode cL_law 362 = .ok (.iaload, 1) := by decide +kernel
theorem dL_law_363 : decode cL_law 363 = .ok (.invokevirtual 43, 3) := by decide +kernel
theorem dL_law_366 : decode cL_law 366 = .ok (.aload_n 2, 1) := by decide +kernel
theorem dL_law_367 : decode cL_law 367 = .ok (.aload_n 0, 1) := by decide +kernel
theorem dL_law_368 : decode cL_law 368 = .ok (.iload_n 3, 1) := by decide +kernel
theorem dL_law_369 : decode cL_law 369 = .ok (.iconst 1, 1) := by decide +kernel
theorem dL_law_370 : decode cL_law 370 = .ok (.iadd, 1) := by decide +kernel
theorem dL_law_371 : decode cL_law 371 = .ok (.iaload, 1) := by decide +kernel
theorem dL_law_372 : decode cL_law 372 = .ok (.invokevirtual 46, 3) := by decide +kernel
theorem dL_law_375 : decode cL_law 375 = .ok (.if_icmp .eq 353, 3) := by decide +kernel
theorem dL_law_378 : decode cL_law 378 = .ok (.iconst 0, 1) := by decide +kernel
theorem dL_law_379 : decode cL_law 379 = .ok (.ireturn, 1) := by decide +kernel
theorem dL_law_380 : decode cL_law 380 = .ok (.aload_n 1, 1) := by decide +kernel
theorem dL_law_381 : decode cL_law 381 = .ok (.aload_n 0, 1) := by decide +kernel
theorem dL_law_382 : decode cL_law 382 = .ok (.iload_n 3, 1) := by decide +kernel
theorem dL_law_383 : decode cL_law 383 = .ok (.iconst 1, 1) := by decide +kernel
theorem dL_law_384 : decode cL_law 384 = .ok (.iadd, 1) := by decide +kernel
theorem dL_law_385 : decode cL_law 385 = .ok (.iaload, 1) := by decide +kernel
theorem dL_law_386 : decode cL_law 386 = .ok (.aload_n 0, 1) := by decide +kernel
theorem dL_law_387 : decode cL_law 387 = .ok (.iload_n 3, 1) := by decide +kernel
theorem dL_law_388 : decode cL_law 388 = .ok (.iconst 2, 1) := by decide +kernel
theorem dL_law_389 : decode cL_law 389 = .ok (.iadd, 1) := by decide +kernel
theorem dL_law_390 : decode cL_law 390 = .ok (.iaload, 1) := by decide +kernel
theorem dL_law_391 : decode cL_law 391 = .ok (.invokevirtual 47, 3) := by decide +kernel
theorem dL_law_394 : decode cL_law 394 = .ok (.aload_n 2, 1) := by decide +kernel
theorem dL_law_395 : decode cL_law 395 = .ok (.aload_n 0, 1) := by decide +kernel
theorem dL_law_396 : decode cL_law 396 = .ok (.iload_n 3, 1) := by decide +kernel
theorem dL_law_397 : decode cL_law 397 = .ok (.iconst 1, 1) := by decide +kernel
theorem dL_law_398 : decode cL_law 398 = .ok (.iadd, 1) := by decide +kernel
theorem dL_law_399 : decode cL_law 399 = .ok (.iaload, 1) := by decide +kernel
theorem dL_law_400 : decode cL_law 400 = .ok (.aload_n 0, 1) := by decide +kernel
theorem dL_law_401 : decode cL_law 401 = .ok (.iload_n 3, 1) := by decide +kernel
theorem dL_law_402 : decode cL_law 402 = .ok (.iconst 2, 1) := by decide +kernel
end
section
theorem dL_law_403 : decode cL_law 403 = .ok (.iadd, 1) := by decide +kernel
theorem dL_law_404 : decode cL_law 404 = .ok (.iaload, 1) := by decide +kernel
theorem dL_law_405 : decode cL_law 405 = .ok (.invokevirtual 50, 3) := by decide +kernel
theorem dL_law_408 : decode cL_law 408 = .ok (.if_icmp .eq 320, 3) := by decide +kernel
theorem dL_law_411 : decode cL_law 411 = .ok (.iconst 0, 1) := by decide +kernel
theorem dL_law_412 : decode cL_law 412 = .ok (.ireturn, 1) := by decide +kernel
theorem dL_law_413 : decode cL_law 413 = .ok (.aload_n 1, 1) := by decide +kernel
theorem dL_law_414 : decode cL_law 414 = .ok (.aload_n 0, 1) := by decide +kernel
theorem dL_law_415 : decode cL_law 415 = .ok (.iload_n 3, 1) := by decide +kernel
theorem dL_law_416 : decode cL_law 416 = .ok (.iconst 1, 1) := by decide +kernel
theorem dL_law_417 : decode cL_law 417 = .ok (.iadd, 1) := by decide +kernel
theorem dL_law_418 : decode cL_law 418 = .ok (.iaload, 1) := by decide +kernel
theorem dL_law_419 : decode cL_law 419 = .ok (.aload_n 0, 1) := by decide +kernel
theorem dL_law_420 : decode cL_law 420 = .ok (.iload_n 3, 1) := by decide +kernel
theorem dL_law_421 : decode cL_law 421 = .ok (.iconst 2, 1) := by decide +kernel
theorem dL_law_422 : decode cL_law 422 = .ok (.iadd, 1) := by decide +kernel
theorem dL_law_423 : decode cL_law 423 = .ok (.iaload, 1) := by decide +kernel
theorem dL_law_424 : decode cL_law 424 = .ok (.invokevirtual 51, 3) := by decide +kernel
theorem dL_law_427 : decode cL_law 427 = .ok (.aload_n 2, 1) := by decide +kernel
theorem dL_law_428 : decode cL_law 428 = .ok (.aload_n 0, 1) := by decide +kernel
theorem dL_law_429 : decode cL_law 429 = .ok (.iload_n 3, 1) := by decide +kernel
theorem dL_law_430 : decode cL_law 430 = .ok (.iconst 1, 1) := by decide +kernel
theorem dL_law_431 : decode cL_law 431 = .ok (.iadd, 1) := by decide +kernel
theorem dL_law_432 : decode cL_law 432 = .ok (.iaload, 1) := by decide +kernel
theorem dL_law_433 : decode cL_law 433 = .ok (.aload_n 0, 1) := by decide +kernel
theorem dL_law_434 : decode cL_law 434 = .ok (.iload_n 3, 1) := by decide +kernel
theorem dL_law_435 : decode cL_law 435 = .ok (.iconst 2, 1) := by decide +kernel
theorem dL_law_436 : decode cL_law 436 = .ok (.iadd, 1) := by decide +kernel
theorem dL_law_437 : decode cL_law 437 = .ok (.iaload, 1) := by decide +kernel
theorem dL_law_438 : decode cL_law 438 = .ok (.invokevirtual 54, 3) := by decide +kernel
theorem dL_law_441 : decode cL_law 441 = .ok (.if_icmp .eq 287, 3) := by decide +kernel
theorem dL_law_444 : decode cL_law 444 = .ok (.iconst 0, 1) := by decide +kernel
theorem dL_law_445 : decode cL_law 445 = .ok (.ireturn, 1) := by decide +kernel
theorem dL_law_446 : decode cL_law 446 = .ok (.aload_n 1, 1) := by decide +kernel
theorem dL_law_447 : decode cL_law 447 = .ok (.aload_n 0, 1) := by decide +kernel
theorem dL_law_448 : decode cL_law 448 = .ok (.iload_n 3, 1) := by decide +kernel
theorem dL_law_449 : decode cL_law 449 = .ok (.iconst 1, 1) := by decide +kernel
theorem dL_law_450 : decode cL_law 450 = .ok (.iadd, 1) := by decide +kernel
theorem dL_law_451 : decode cL_law 451 = .ok (.iaload, 1) := by decide +kernel
theorem dL_law_452 : decode cL_law 452 = .ok (.invokevirtual 55, 3) := by decide +kernel
theorem dL_law_455 : decode cL_law 455 = .ok (.aload_n 2, 1) := by decide +kernel
theorem dL_law_456 : decode cL_law 456 = .ok (.aload_n 0, 1) := by decide +kernel
theorem dL_law_457 : decode cL_law 457 = .ok (.iload_n 3, 1) := by decide +kernel
theorem dL_law_458 : decode cL_law 458 = .ok (.iconst 1, 1) := by decide +kernel
theorem dL_law_459 : decode cL_law 459 = .ok (.iadd, 1) := by decide +kernel
theorem dL_law_460 : decode cL_law 460 = .ok (.iaload, 1) := by decide +kernel
theorem dL_law_461 : decode cL_law 461 = .ok (.invokevirtual 58, 3) := by decide +kernel
theorem dL_law_464 : decode cL_law 464 = .ok (.if_icmp .eq 264, 3) := by decide +kernel
theorem dL_law_467 : decode cL_law 467 = .ok (.iconst 0, 1) := by decide +kernel
theorem dL_law_468 : decode cL_law 468 = .ok (.ireturn, 1) := by decide +kernel
theorem dL_law_469 : decode cL_law 469 = .ok (.aload_n 1, 1) := by decide +kernel
theorem dL_law_470 : decode cL_law 470 = .ok (.aload_n 0, 1) := by decide +kernel
theorem dL_law_471 : decode cL_law 471 = .ok (.iload_n 3, 1) := by decide +kernel
theorem dL_law_472 : decode cL_law 472 = .ok (.iconst 1, 1) := by decide +kernel
theorem dL_law_473 : decode cL_law 473 = .ok (.iadd, 1) := by decide +kernel
theorem dL_law_474 : decode cL_law 474 = .ok (.iaload, 1) := by decide +kernel
theorem dL_law_475 : decode cL_law 475 = .ok (.invokevirtual 59, 3) := by decide +kernel
theorem dL_law_478 : decode cL_law 478 = .ok (.aload_n 2, 1) := by decide +kernel
theorem dL_law_479 : decode cL_law 479 = .ok (.aload_n 0, 1) := by decide +kernel
theorem dL_law_480 : decode cL_law 480 = .ok (.iload_n 3, 1) := by decide +kernel
theorem dL_law_481 : decode cL_law 481 = .ok (.iconst 1, 1) := by decide +kernel
theorem dL_law_482 : decode cL_law 482 = .ok (.iadd, 1) := by decide +kernel
theorem dL_law_483 : decode cL_law 483 = .ok (.iaload, 1) := by decide +kernel
theorem dL_law_484 : decode cL_law 484 = .ok (.invokevirtual 62, 3) := by decide +kernel
theorem dL_law_487 : decode cL_law 487 = .ok (.if_icmp .eq 241, 3) := by decide +kernel
theorem dL_law_490 : decode cL_law 490 = .ok (.iconst 0, 1) := by decide +kernel
theorem dL_law_491 : decode cL_law 491 = .ok (.ireturn, 1) := by decide +kernel
theorem dL_law_492 : decode cL_law 492 = .ok (.aload_n 1, 1) := by decide +kernel
theorem dL_law_493 : decode cL_law 493 = .ok (.invokevirtual 63, 3) := by decide +kernel
theorem dL_law_496 : decode cL_law 496 = .ok (.aload_n 2, 1) := by decide +kernel
theorem dL_law_497 : decode cL_law 497 = .ok (.invokevirtual 67, 3) := by decide +kernel
theorem dL_law_500 : decode cL_law 500 = .ok (.if_icmp .eq 228, 3) := by decide +kernel
theorem dL_law_503 : decode cL_law 503 = .ok (.iconst 0, 1) := by decide +kernel
theorem dL_law_504 : decode cL_law 504 = .ok (.ireturn, 1) := by decide +kernel
theorem dL_law_505 : decode cL_law 505 = .ok (.aload_n 1, 1) := by decide +kernel
theorem dL_law_506 : decode cL_law 506 = .ok (.aload_n 0, 1) := by decide +kernel
theorem dL_law_507 : decode cL_law 507 = .ok (.iload_n 3, 1) := by decide +kernel
theorem dL_law_508 : decode cL_law 508 = .ok (.iconst 1, 1) := by decide +kernel
theorem dL_law_509 : decode cL_law 509 = .ok (.iadd, 1) := by decide +kernel
theorem dL_law_510 : decode cL_law 510 = .ok (.iaload, 1) := by decide +kernel
theorem dL_law_511 : decode cL_law 511 = .ok (.invokevirtual 68, 3) := by decide +kernel
theorem dL_law_514 : decode cL_law 514 = .ok (.aload_n 2, 1) := by decide +kernel
theorem dL_law_515 : decode cL_law 515 = .ok (.aload_n 0, 1) := by decide +kernel
theorem dL_law_516 : decode cL_law 516 = .ok (.iload_n 3, 1) := by decide +kernel
theorem dL_law_517 : decode cL_law 517 = .ok (.iconst 1, 1) := by decide +kernel
theorem dL_law_518 : decode cL_law 518 = .ok (.iadd, 1) := by decide +kernel
theorem dL_law_519 : decode cL_law 519 = .ok (.iaload, 1) := by decide +kernel
theorem dL_law_520 : decode cL_law 520 = .ok (.invokevirtual 71, 3) := by decide +kernel
theorem dL_law_523 : decode cL_law 523 = .ok (.if_icmp .eq 205, 3) := by decide +kernel
theorem dL_law_526 : decode cL_law 526 = .ok (.iconst 0, 1) := by decide +kernel
theorem dL_law_527 : decode cL_law 527 = .ok (.ireturn, 1) := by decide +kernel
theorem dL_law_528 : decode cL_law 528 = .ok (.aload_n 1, 1) := by decide +kernel
theorem dL_law_529 : decode cL_law 529 = .ok (.aload_n 0, 1) := by decide +kernel
theorem dL_law_530 : decode cL_law 530 = .ok (.iload_n 3, 1) := by decide +kernel
theorem dL_law_531 : decode cL_law 531 = .ok (.iconst 1, 1) := by decide +kernel
theorem dL_law_532 : decode cL_law 532 = .ok (.iadd, 1) := by decide +kernel
theorem dL_law_533 : decode cL_law 533 = .ok (.iaload, 1) := by decide +kernel
theorem dL_law_534 : decode cL_law 534 = .ok (.invokevirtual 72, 3) := by decide +kernel
theorem dL_law_537 : decode cL_law 537 = .ok (.aload_n 2, 1) := by decide +kernel
theorem dL_law_538 : decode cL_law 538 = .ok (.aload_n 0, 1) := by decide +kernel
theorem dL_law_539 : decode cL_law 539 = .ok (.iload_n 3, 1) := by decide +kernel
theorem dL_law_540 : decode cL_law 540 = .ok (.iconst 1, 1) := by decide +kernel
theorem dL_law_541 : decode cL_law 541 = .ok (.iadd, 1) := by decide +kernel
theorem dL_law_542 : decode cL_law 542 = .ok (.iaload, 1) := by decide +kernel
theorem dL_law_543 : decode cL_law 543 = .ok (.invokevirtual 75, 3) := by decide +kernel
theorem dL_law_546 : decode cL_law 546 = .ok (.if_icmp .eq 182, 3) := by decide +kernel
theorem dL_law_549 : decode cL_law 549 = .ok (.iconst 0, 1) := by decide +kernel
theorem dL_law_550 : decode cL_law 550 = .ok (.ireturn, 1) := by decide +kernel
theorem dL_law_551 : decode cL_law 551 = .ok (.aload_n 1, 1) := by decide +kernel
theorem dL_law_552 : decode cL_law 552 = .ok (.aload_n 0, 1) := by decide +kernel
theorem dL_law_553 : decode cL_law 553 = .ok (.iload_n 3, 1) := by decide +kernel
theorem dL_law_554 : decode cL_law 554 = .ok (.iconst 1, 1) := by decide +kernel
theorem dL_law_555 : decode cL_law 555 = .ok (.iadd, 1) := by decide +kernel
theorem dL_law_556 : decode cL_law 556 = .ok (.iaload, 1) := by decide +kernel
theorem dL_law_557 : decode cL_law 557 = .ok (.invokevirtual 76, 3) := by decide +kernel
theorem dL_law_560 : decode cL_law 560 = .ok (.aload_n 2, 1) := by decide +kernel
theorem dL_law_561 : decode cL_law 561 = .ok (.aload_n 0, 1) := by decide +kernel
theorem dL_law_562 : decode cL_law 562 = .ok (.iload_n 3, 1) := by decide +kernel
theorem dL_law_563 : decode cL_law 563 = .ok (.iconst 1, 1) := by decide +kernel
theorem dL_law_564 : decode cL_law 564 = .ok (.iadd, 1) := by decide +kernel
theorem dL_law_565 : decode cL_law 565 = .ok (.iaload, 1) := by decide +kernel
theorem dL_law_566 : decode cL_law 566 = .ok (.invokevirtual 79, 3) := by decide +kernel
theorem dL_law_569 : decode cL_law 569 = .ok (.if_icmp .eq 159, 3) := by decide +kernel
theorem dL_law_572 : decode cL_law 572 = .ok (.iconst 0, 1) := by decide +kernel
theorem dL_law_573 : decode cL_law 573 = .ok (.ireturn, 1) := by decide +kernel
theorem dL_law_574 : decode cL_law 574 = .ok (.aload_n 1, 1) := by decide +kernel
theorem dL_law_575 : decode cL_law 575 = .ok (.aload_n 0, 1) := by decide +kernel
theorem dL_law_576 : decode cL_law 576 = .ok (.iload_n 3, 1) := by decide +kernel
theorem dL_law_577 : decode cL_law 577 = .ok (.iconst 1, 1) := by decide +kernel
theorem dL_law_578 : decode cL_law 578 = .ok (.iadd, 1) := by decide +kernel
theorem dL_law_579 : decode cL_law 579 = .ok (.iaload, 1) := by decide +kernel
theorem dL_law_580 : decode cL_law 580 = .ok (.invokevirtual 80, 3) := by decide +kernel
theorem dL_law_583 : decode cL_law 583 = .ok (.aload_n 2, 1) := by decide +kernel
theorem dL_law_584 : decode cL_law 584 = .ok (.aload_n 0, 1) := by decide +kernel
theorem dL_law_585 : decode cL_law 585 = .ok (.iload_n 3, 1) := by decide +kernel
theorem dL_law_586 : decode cL_law 586 = .ok (.iconst 1, 1) := by decide +kernel
theorem dL_law_587 : decode cL_law 587 = .ok (.iadd, 1) := by decide +kernel
theorem dL_law_588 : decode cL_law 588 = .ok (.iaload, 1) := by decide +kernel
theorem dL_law_589 : decode cL_law 589 = .ok (.invokevirtual 83, 3) := by decide +kernel
theorem dL_law_592 : decode cL_law 592 = .ok (.if_icmp .eq 136, 3) := by decide +kernel
theorem dL_law_595 : decode cL_law 595 = .ok (.iconst 0, 1) := by decide +kernel
theorem dL_law_596 : decode cL_law 596 = .ok (.ireturn, 1) := by decide +kernel
theorem dL_law_597 : decode cL_law 597 = .ok (.aload_n 1, 1) := by decide +kernel
theorem dL_law_598 : decode cL_law 598 = .ok (.aload_n 0, 1) := by decide +kernel
theorem dL_law_599 : decode cL_law 599 = .ok (.iload_n 3, 1) := by decide +kernel
theorem dL_law_600 : decode cL_law 600 = .ok (.iconst 1, 1) := by decide +kernel
theorem dL_law_601 : decode cL_law 601 = .ok (.iadd, 1) := by decide +kernel
theorem dL_law_602 : decode cL_law 602 = .ok (.iaload, 1) := by decide +kernel
theorem dL_law_603 : decode cL_law 603 = .ok (.aload_n 0, 1) := by decide +kernel
theorem dL_law_604 : decode cL_law 604 = .ok (.iload_n 3, 1) := by decide +kernel
theorem dL_law_605 : decode cL_law 605 = .ok (.iconst 2, 1) := by decide +kernel
theorem dL_law_606 : decode cL_law 606 = .ok (.iadd, 1) := by decide +kernel
theorem dL_law_607 : decode cL_law 607 = .ok (.iaload, 1) := by decide +kernel
theorem dL_law_608 : decode cL_law 608 = .ok (.ifCond .eq 7, 3) := by decide +kernel
theorem dL_law_611 : decode cL_law 611 = .ok (.iconst 1, 1) := by decide +kernel
theorem dL_law_612 : decode cL_law 612 = .ok (.goto 4, 3) := by decide +kernel
theorem dL_law_615 : decode cL_law 615 = .ok (.iconst 0, 1) := by decide +kernel
theorem dL_law_616 : decode cL_law 616 = .ok (.invokevirtual 84, 3) := by decide +kernel
theorem dL_law_619 : decode cL_law 619 = .ok (.aload_n 2, 1) := by decide +kernel
theorem dL_law_620 : decode cL_law 620 = .ok (.aload_n 0, 1) := by decide +kernel
theorem dL_law_621 : decode cL_law 621 = .ok (.iload_n 3, 1) := by decide +kernel
theorem dL_law_622 : decode cL_law 622 = .ok (.iconst 1, 1) := by decide +kernel
theorem dL_law_623 : decode cL_law 623 = .ok (.iadd, 1) := by decide +kernel
theorem dL_law_624 : decode cL_law 624 = .ok (.iaload, 1) := by decide +kernel
theorem dL_law_625 : decode cL_law 625 = .ok (.aload_n 0, 1) := by decide +kernel
theorem dL_law_626 : decode cL_law 626 = .ok (.iload_n 3, 1) := by decide +kernel
theorem dL_law_627 : decode cL_law 627 = .ok (.iconst 2, 1) := by decide +kernel
theorem dL_law_628 : decode cL_law 628 = .ok (.iadd, 1) := by decide +kernel
theorem dL_law_629 : decode cL_law 629 = .ok (.iaload, 1) := by decide +kernel
theorem dL_law_630 : decode cL_law 630 = .ok (.ifCond .eq 7, 3) := by decide +kernel
theorem dL_law_633 : decode cL_law 633 = .ok (.iconst 1, 1) := by decide +kernel
theorem dL_law_634 : decode cL_law 634 = .ok (.goto 4, 3) := by decide +kernel
theorem dL_law_637 : decode cL_law 637 = .ok (.iconst 0, 1) := by decide +kernel
theorem dL_law_638 : decode cL_law 638 = .ok (.invokevirtual 88, 3) := by decide +kernel
theorem dL_law_641 : decode cL_law 641 = .ok (.if_icmp .eq 87, 3) := by decide +kernel
theorem dL_law_644 : decode cL_law 644 = .ok (.iconst 0, 1) := by decide +kernel
theorem dL_law_645 : decode cL_law 645 = .ok (.ireturn, 1) := by decide +kernel
theorem dL_law_646 : decode cL_law 646 = .ok (.aload_n 1, 1) := by decide +kernel
theorem dL_law_647 : decode cL_law 647 = .ok (.invokevirtual 89, 3) := by decide +kernel
theorem dL_law_650 : decode cL_law 650 = .ok (.aload_n 2, 1) := by decide +kernel
theorem dL_law_651 : decode cL_law 651 = .ok (.invokevirtual 92, 3) := by decide +kernel
theorem dL_law_654 : decode cL_law 654 = .ok (.if_icmp .eq 74, 3) := by decide +kernel
theorem dL_law_657 : decode cL_law 657 = .ok (.iconst 0, 1) := by decide +kernel
theorem dL_law_658 : decode cL_law 658 = .ok (.ireturn, 1) := by decide +kernel
theorem dL_law_659 : decode cL_law 659 = .ok (.aload_n 1, 1) := by decide +kernel
theorem dL_law_660 : decode cL_law 660 = .ok (.aload_n 0, 1) := by decide +kernel
theorem dL_law_661 : decode cL_law 661 = .ok (.iload_n 3, 1) := by decide +kernel
theorem dL_law_662 : decode cL_law 662 = .ok (.iconst 1, 1) := by decide +kernel
theorem dL_law_663 : decode cL_law 663 = .ok (.iadd, 1) := by decide +kernel
theorem dL_law_664 : decode cL_law 664 = .ok (.iaload, 1) := by decide +kernel
theorem dL_law_665 : decode cL_law 665 = .ok (.invokevirtual 93, 3) := by decide +kernel
theorem dL_law_668 : decode cL_law 668 = .ok (.aload_n 2, 1) := by decide +kernel
theorem dL_law_669 : decode cL_law 669 = .ok (.aload_n 0, 1) := by decide +kernel
theorem dL_law_670 : decode cL_law 670 = .ok (.iload_n 3, 1) := by decide +kernel
theorem dL_law_671 : decode cL_law 671 = .ok (.iconst 1, 1) := by decide +kernel
theorem dL_law_672 : decode cL_law 672 = .ok (.iadd, 1) := by decide +kernel
theorem dL_law_673 : decode cL_law 673 = .ok (.iaload, 1) := by decide +kernel
theorem dL_law_674 : decode cL_law 674 = .ok (.invokevirtual 96, 3) := by decide +kernel
theorem dL_law_677 : decode cL_law 677 = .ok (.if_icmp .eq 51, 3) := by decide +kernel
theorem dL_law_680 : decode cL_law 680 = .ok (.iconst 0, 1) := by decide +kernel
theorem dL_law_681 : decode cL_law 681 = .ok (.ireturn, 1) := by decide +kernel
theorem dL_law_682 : decode cL_law 682 = .ok (.aload_n 1, 1) := by decide +kernel
theorem dL_law_683 : decode cL_law 683 = .ok (.aload_n 0, 1) := by decide +kernel
theorem dL_law_684 : decode cL_law 684 = .ok (.iload_n 3, 1) := by decide +kernel
theorem dL_law_685 : decode cL_law 685 = .ok (.iconst 1, 1) := by decide +kernel
theorem dL_law_686 : decode cL_law 686 = .ok (.iadd, 1) := by decide +kernel
theorem dL_law_687 : decode cL_law 687 = .ok (.iaload, 1) := by decide +kernel
theorem dL_law_688 : decode cL_law 688 = .ok (.invokevirtual 97, 3) := by decide +kernel
theorem dL_law_691 : decode cL_law 691 = .ok (.aload_n 2, 1) := by decide +kernel
theorem dL_law_692 : decode cL_law 692 = .ok (.aload_n 0, 1) := by decide +kernel
theorem dL_law_693 : decode cL_law 693 = .ok (.iload_n 3, 1) := by decide +kernel
theorem dL_law_694 : decode cL_law 694 = .ok (.iconst 1, 1) := by decide +kernel
theorem dL_law_695 : decode cL_law 695 = .ok (.iadd, 1) := by decide +kernel
theorem dL_law_696 : decode cL_law 696 = .ok (.iaload, 1) := by decide +kernel
theorem dL_law_697 : decode cL_law 697 = .ok (.invokevirtual 100, 3) := by decide +kernel
theorem dL_law_700 : decode cL_law 700 = .ok (.if_icmp .eq 28, 3) := by decide +kernel
theorem dL_law_703 : decode cL_law 703 = .ok (.iconst 0, 1) := by decide +kernel
theorem dL_law_704 : decode cL_law 704 = .ok (.ireturn, 1) := by decide +kernel
theorem dL_law_705 : decode cL_law 705 = .ok (.aload_n 1, 1) := by decide +kernel
theorem dL_law_706 : decode cL_law 706 = .ok (.aload_n 0, 1) := by decide +kernel
theorem dL_law_707 : decode cL_law 707 = .ok (.iload_n 3, 1) := by decide +kernel
theorem dL_law_708 : decode cL_law 708 = .ok (.iconst 1, 1) := by decide +kernel
theorem dL_law_709 : decode cL_law 709 = .ok (.iadd, 1) := by decide +kernel
theorem dL_law_710 : decode cL_law 710 = .ok (.iaload, 1) := by decide +kernel
theorem dL_law_711 : decode cL_law 711 = .ok (.invokevirtual 101, 3) := by decide +kernel
theorem dL_law_714 : decode cL_law 714 = .ok (.aload_n 2, 1) := by decide +kernel
theorem dL_law_715 : decode cL_law 715 = .ok (.aload_n 0, 1) := by decide +kernel
theorem dL_law_716 : decode cL_law 716 = .ok (.iload_n 3, 1) := by decide +kernel
theorem dL_law_717 : decode cL_law 717 = .ok (.iconst 1, 1) := by decide +kernel
theorem dL_law_718 : decode cL_law 718 = .ok (.iadd, 1) := by decide +kernel
theorem dL_law_719 : decode cL_law 719 = .ok (.iaload, 1) := by decide +kernel
theorem dL_law_720 : decode cL_law 720 = .ok (.invokevirtual 104, 3) := by decide +kernel
theorem dL_law_723 : decode cL_law 723 = .ok (.if_icmp .eq 5, 3) := by decide +kernel
theorem dL_law_726 : decode cL_law 726 = .ok (.iconst 0, 1) := by decide +kernel
theorem dL_law_727 : decode cL_law 727 = .ok (.ireturn, 1) := by decide +kernel
theorem dL_law_728 : decode cL_law 728 = .ok (.iinc 3 3, 3) := by decide +kernel
theorem dL_law_731 : decode cL_law 731 = .ok (.goto (-713), 3) := by decide +kernel
theorem dL_law_734 : decode cL_law 734 = .ok (.iconst 1, 1) := by decide +kernel
theorem dL_law_735 : decode cL_law 735 = .ok (.ireturn, 1) := by decide +kernel
end
section
/-! Numbers: a whole number stands for an int (mod 2^32) or a long (mod 2^64) -/
abbrev iR (z : Int) : Prop := -2147483648 ≤ z ∧ z < 2147483648
abbrev jR (z : Int) : Prop := -9223372036854775808 ≤ z ∧ z < 9223372036854775808
def iv (z : Int) : Int32 := Int32.ofInt z
def jv (z : Int) : Int64 := Int64.ofInt z
theorem iv_add (a b : Int) : iv (a + b) = iv a + iv b := Int32.ofInt_add a b
theorem iv_sub (a b : Int) : iv (a - b) = iv a - iv b := Int32.ofInt_sub a b
theorem iv_mul (a b : Int) : iv (a * b) = iv a * iv b := Int32.ofInt_mul a b
theorem jv_add (a b : Int) : jv (a + b) = jv a + jv b := Int64.ofInt_add a b
theorem jv_mul (a b : Int) : jv (a * b) = jv a * jv b := Int64.ofInt_mul a b
theorem jv_sub (a b : Int) : jv (a - b) = jv a - jv b := Int64.ofInt_sub a b
theorem iv_toInt {a : Int} (h : iR a) : (iv a).toInt = a := Int32.toInt_ofInt_of_le h.1 h.2
theorem jv_toInt {a : Int} (h : jR a) : (jv a).toInt = a := Int64.toInt_ofInt_of_le h.1 h.2
theorem iv_lt {a b : Int} (ha : iR a) (hb : iR b) : iv a < iv b ↔ a < b := by rw [Int32.lt_iff_toInt_lt, iv_toInt ha, iv_toInt hb]
theorem iv_le {a b : Int} (ha : iR a) (hb : iR b) : iv a ≤ iv b ↔ a ≤ b := by rw [Int32.le_iff_toInt_le, iv_toInt ha, iv_toInt hb]
theorem iv_eq {a b : Int} (ha : iR a) (hb : iR b) : iv a = iv b ↔ a = b := by rw [← Int32.toInt_inj, iv_toInt ha, iv_toInt hb]
theorem jv_lt {a b : Int} (ha : jR a) (hb : jR b) : jv a < jv b ↔ a < b := by rw [Int64.lt_iff_toInt_lt, jv_toInt ha, jv_toInt hb]
theorem jv_eq {a b : Int} (ha : jR a) (hb : jR b) : jv a = jv b ↔ a = b := by rw [← Int64.toInt_inj, jv_toInt ha, jv_toInt hb]
theorem iv_nat (n : Nat) : iv (n : Int) = nI n := Int32.ofInt_eq_ofNat
theorem jv_nat (n : Nat) : jv (n : Int) = lN n := Int64.ofInt_eq_ofNat
theorem iv_0 : iv 0 = 0 := rfl
theorem iv_1 : iv 1 = 1 := rfl
theorem iv_self (x : Int32) : iv x.toInt = x := Int32.ofInt_toInt x
theorem iR_self (x : Int32) : iR x.toInt := ⟨Int32.le_toInt x, Int32.toInt_lt x⟩
theorem iv_clamp {a : Int} (h : iR a) : (iv a).toNatClampNeg = a.toNat := by
  show (iv a).toInt.toNat = _
  rw [iv_toInt h]
theorem iv_div {a b : Int} (ha : iR a) (hb : iR b) : iv (a.tdiv b) = iv a / iv b :=
  Int32.ofInt_tdiv ha.1 (Int.le_of_lt_add_one ha.2) hb.1 (Int.le_of_lt_add_one hb.2)
theorem iv_rem {a b : Int} (ha : iR a) (hb : iR b) : iv (a.tmod b) = iv a - iv a / iv b * iv b := by
  rw [← iv_div ha hb, ← iv_mul, ← iv_sub]
  congr 1
  have h := Int.tmod_add_mul_tdiv a b
  rw [Int.mul_comm] at h
  omega
theorem iv_ne0 {b : Int} (hb : iR b) (h : b ≠ 0) : ¬ iv b = 0 := fun q => h ((iv_eq hb ⟨by decide, by decide⟩).mp (q.trans iv_0.symm))
theorem iv_in {a : Int} {n : Nat} (h0 : 0 ≤ a) (h1 : a < n) (hn : n < 2147483648) : vp_in (iv a) n := by
  have hR : iR a := ⟨by omega, by omega⟩
  rintro (h | h)
  · rw [← iv_0, iv_lt hR ⟨by decide, by decide⟩] at h
    omega
  · rw [iv_clamp hR] at h
    omega
theorem iv_toJ {a : Int} (h : iR a) : (iv a).toInt64 = jv a := by
  have e : (iv a).toInt64.toInt = a := by rw [Int32.toInt_toInt64, iv_toInt h]
  rw [← Int64.toInt_inj, e, jv_toInt ⟨by have := h.1; omega, by have := h.2; omega⟩]
theorem jv_toI {a : Int} (h : 0 ≤ a) : (jv a).toInt32 = iv a := by
  obtain ⟨n, rfl⟩ := Int.eq_ofNat_of_zero_le h
  rw [jv_nat, iv_nat, lN_i]
theorem iv_bi {z : Int} (h : -128 ≤ z ∧ z < 128) : (Int8.ofInt z).toInt32 = iv z := by
  rw [← Int32.toInt_inj, Int8.toInt_toInt32, Int8.toInt_ofInt_of_le h.1 h.2, iv_toInt ⟨by omega, by omega⟩]
theorem iv_si {z : Int} (h : -32768 ≤ z ∧ z < 32768) : (Int16.ofInt z).toInt32 = iv z := by
  rw [← Int32.toInt_inj, Int16.toInt_toInt32, Int16.toInt_ofInt_of_le h.1 h.2, iv_toInt ⟨by omega, by omega⟩]
theorem iz_and (a b : Nat) : nI a &&& nI b = nI (a &&& b) := by
  apply Int32.toBitVec_inj.1
  show BitVec.ofNat 32 a &&& BitVec.ofNat 32 b = BitVec.ofNat 32 (a &&& b)
  apply BitVec.eq_of_getLsbD_eq
  intro i hi
  simp [hi]
theorem iz_or (a b : Nat) : nI a ||| nI b = nI (a ||| b) := by
  apply Int32.toBitVec_inj.1
  show BitVec.ofNat 32 a ||| BitVec.ofNat 32 b = BitVec.ofNat 32 (a ||| b)
  apply BitVec.eq_of_getLsbD_eq
  intro i hi
  simp [hi]
theorem jz_and (a b : Nat) : lN a &&& lN b = lN (a &&& b) := by
  apply Int64.toBitVec_inj.1
  show BitVec.ofNat 64 a &&& BitVec.ofNat 64 b = BitVec.ofNat 64 (a &&& b)
  apply BitVec.eq_of_getLsbD_eq
  intro i hi
  simp [hi]
theorem iv_and {a b : Int} (ha : 0 ≤ a) (hb : 0 ≤ b) : iv a &&& iv b = iv ((a.toNat &&& b.toNat : Nat) : Int) := by
  obtain ⟨n, rfl⟩ := Int.eq_ofNat_of_zero_le ha
  obtain ⟨m, rfl⟩ := Int.eq_ofNat_of_zero_le hb
  rw [iv_nat, iv_nat, iz_and, iv_nat]
  rfl
theorem iv_or {a b : Int} (ha : 0 ≤ a) (hb : 0 ≤ b) : iv a ||| iv b = iv ((a.toNat ||| b.toNat : Nat) : Int) := by
  obtain ⟨n, rfl⟩ := Int.eq_ofNat_of_zero_le ha
  obtain ⟨m, rfl⟩ := Int.eq_ofNat_of_zero_le hb
  rw [iv_nat, iv_nat, iz_or, iv_nat]
  rfl
theorem jv_and {a b : Int} (ha : 0 ≤ a) (hb : 0 ≤ b) : jv a &&& jv b = jv ((a.toNat &&& b.toNat : Nat) : Int) := by
  obtain ⟨n, rfl⟩ := Int.eq_ofNat_of_zero_le ha
  obtain ⟨m, rfl⟩ := Int.eq_ofNat_of_zero_le hb
  rw [jv_nat, jv_nat, jz_and, jv_nat]
  rfl
theorem iz_sl : ∀ k, k < 32 → ((nI k &&& 31).toBitVec.smod 32).toNat = k := by decide +kernel
theorem iz_su : ∀ k, k < 32 → (((nI k).toUInt32 &&& Int32.toUInt32 31).toBitVec % 32).toNat = k := by decide +kernel
theorem iv_shl {a b : Int} (ha : 0 ≤ a) (hb : 0 ≤ b) (hb2 : b < 32) (h : a * 2 ^ b.toNat < 4294967296) : iv a <<< (iv b &&& 31) = iv (a * 2 ^ b.toNat) := by
  obtain ⟨n, rfl⟩ := Int.eq_ofNat_of_zero_le ha
  obtain ⟨m, rfl⟩ := Int.eq_ofNat_of_zero_le hb
  have hm : m < 32 := by omega
  have h2 : n * 2 ^ m < 2 ^ 32 := by
    have h3 : ((n * 2 ^ m : Nat) : Int) < 4294967296 := by simpa using h
    omega
  rw [iv_nat, iv_nat, pk_shlN _ m (iz_sl m hm) h2, ← iv_nat]
  simp
theorem iv_shr {a b : Int} (ha : 0 ≤ a) (ha2 : a < 2147483648) (hb : 0 ≤ b) (hb2 : b < 32) : iv a >>> (iv b &&& 31) = iv (a / 2 ^ b.toNat) := by
  obtain ⟨n, rfl⟩ := Int.eq_ofNat_of_zero_le ha
  obtain ⟨m, rfl⟩ := Int.eq_ofNat_of_zero_le hb
  rw [iv_nat, iv_nat, pk_shrN (by omega) _ m (iz_sl m (by omega)), ← iv_nat]
  simp
theorem iv_ushr {a b : Int} (ha : 0 ≤ a) (ha2 : a < 2147483648) (hb : 0 ≤ b) (hb2 : b < 32) : ((iv a).toUInt32 >>> ((iv b).toUInt32 &&& Int32.toUInt32 31)).toInt32 = iv (a / 2 ^ b.toNat) := by
  obtain ⟨n, rfl⟩ := Int.eq_ofNat_of_zero_le ha
  obtain ⟨m, rfl⟩ := Int.eq_ofNat_of_zero_le hb
  rw [iv_nat, iv_nat, pk_ushrN (by omega) _ m (iz_su m (by omega)), ← iv_nat]
  simp
theorem iv_and31 (a : Int) : iv a &&& iv 31 = iv (a % 32) := by
  rw [show iv 31 = (31 : Int32) from rfl, pk_and (iv a) 5 (by decide)]
  have e : (iv a).toBitVec.toNat = (a % 4294967296).toNat := by
    show (BitVec.ofInt 32 a).toNat = _
    rw [BitVec.toNat_ofInt]
    rfl
  rw [e, ← iv_nat]
  congr 1
  omega
theorem jv_rem {a b : Int} (ha : jR a) (hb : jR b) : jv (a.tmod b) = jv a - jv a / jv b * jv b := by
  have hd : jv (a.tdiv b) = jv a / jv b := Int64.ofInt_tdiv ha.1 (Int.le_of_lt_add_one ha.2) hb.1 (Int.le_of_lt_add_one hb.2)
  rw [← hd, ← jv_mul, ← jv_sub]
  congr 1
  have h := Int.tmod_add_mul_tdiv a b
  rw [Int.mul_comm] at h
  omega
theorem jv_cmp {a b : Int} (ha : jR a) (hb : jR b) : lg_cmp (jv a) (jv b) = iv (if b < a then 1 else if a = b then 0 else -1) := by
  unfold lg_cmp
  by_cases h1 : b < a
  · rw [if_pos (show jv a > jv b from (jv_lt hb ha).mpr h1), if_pos h1]; rfl
  · rw [if_neg (show ¬ jv a > jv b from fun q => h1 ((jv_lt hb ha).mp q)), if_neg h1]
    by_cases h2 : a = b
    · rw [if_pos ((jv_eq ha hb).mpr h2), if_pos h2]; rfl
    · rw [if_neg (fun q => h2 ((jv_eq ha hb).mp q)), if_neg h2]; rfl
end
section
/-! The land: values, worlds, rules. A predicate P of (pc, locals, stack, graph, memory, cells, slots) that is closed under the rules holds wherever the machine comes to its end -/
/-- the tables' words that every callee may be told -/
def lw_ok : List Cond := lw_tbl.filter goodWord
abbrev pV : Type := Int ⊕ (Int ⊕ Option Nat)
abbrev vI (z : Int) : pV := Sum.inl z
abbrev vJ (z : Int) : pV := Sum.inr (Sum.inl z)
abbrev vR (r : Option Nat) : pV := Sum.inr (Sum.inr r)
/-- an address: number 0 is the script, the others are the cells that are made -/
def tA (B b : Nat) (k : Nat) : Nat := match k with
  | 0 => b
  | k + 1 => B + k
def tV (B b : Nat) (v : pV) : Value := match v with
  | .inl z => .int (iv z)
  | .inr (.inl z) => .long (jv z)
  | .inr (.inr r) => va_rf (r.map (tA B b))
def pC (v : pV) : Nat := match v with
  | .inr (.inl _) => 2
  | _ => 1
abbrev pL : Type := List (Nat × pV)
/-- how many cells (the script is one), the kind and length of each, the references -/
abbrev pG : Type := Nat × (Nat → Nat × Nat) × (Nat → Nat → Option Nat)
abbrev pM : Type := Nat → Nat → Int
abbrev pQ : Type := List pV → pG → pM → Prop
abbrev pH : Type := MethodName → List pV → pG → pM → pQ → Prop
abbrev pP : Type := Nat → pL → List pV → pG → pM → Nat → Nat → Prop
def up2 {α : Type} (f : Nat → Nat → α) (o k : Nat) (v : α) : Nat → Nat → α := fun a j => if a = o then (if j = k then v else f a j) else f a j
def up1 {α : Type} (f : Nat → α) (o : Nat) (v : α) : Nat → α := fun a => if a = o then v else f a
/-- fields of a class: how many; which are references; which are booleans -/
def pN (ci : Nat) : Nat := match ci with
  | 0 => 3 | 1 => 3 | 2 => 3 | 3 => 18 | 4 => 13 | 5 => 9 | 6 => 14 | _ => 0
def pF (ci j : Nat) : Bool := match ci with
  | 0 => decide (1 ≤ j) | 1 => decide (2 ≤ j) | 2 => decide (2 ≤ j) | 3 => decide (13 ≤ j) | 4 => decide (8 ≤ j) | 5 => decide (j ≤ 6)
  | 6 => decide (j ≤ 2) || (decide (6 ≤ j) && decide (j ≤ 7)) || decide (11 ≤ j) | _ => false
def pZ (ci j : Nat) : Bool := match ci with
  | 2 => decide (j = 0) | 3 => decide (j = 0) || decide (j = 12) | 5 => decide (j = 8) | _ => false
def pFV (g : pG) (σ : pM) (o ci j : Nat) : pV := if pF ci j = true then vR (g.2.2 o j) else vI (σ o j)
/-- a local is stored: in the order of the numbers -/
def pSt (i : Nat) (v : pV) : pL → pL
  | [] => [(i, v)]
  | q :: t => if q.1 = i then (i, v) :: t.filter (fun r => !(r.1 == i)) else if i < q.1 then (i, v) :: q :: t.filter (fun r => !(r.1 == i)) else q :: pSt i v t
def pAg : Nat → List pV → pL
  | _, [] => []
  | i, v :: t => (i, v) :: pAg (if pC v = 2 then i + 2 else i + 1) t
def pCmp (c : Jvm.ClassFile.Cond) (x y : Int) : Prop := match c with
  | .eq => x = y
  | .ne => ¬ x = y
  | .lt => x < y
  | .ge => y ≤ x
  | .gt => y < x
  | .le => x ≤ y
/-- a field's link: the pool's entry 'idx' of class 'own' is field f of class ci -/
def pFl (own : String) (idx ci f : Nat) : Prop := ∃ (C : String) (T : u_T), vwCl[ci]? = some (C, T, pN ci) ∧ f < pN ci ∧ (T f).1 = C ∧ Cond.fieldLink own idx C (T f).2.1 (T f).2.2.1 ∈ lw_ok
def pFin (ci f : Nat) : Bool := match vwCl[ci]? with
  | some q => (q.2.1 f).2.2.2
  | none => false
/-- how many parameters -/
def pPar (y : MethodName) (n : Nat) : Prop := y.cls ≠ "java/lang/invoke/MethodHandle" ∧ y.cls ≠ "java/lang/invoke/VarHandle" ∧ (parseMethodDescriptor y.desc).map (fun d => d.parameters.length) = some n
/-- what a call may make: cells, slots -/
def pBd (y : MethodName) : Nat × Nat := if y.name = "<init>" then (if y.cls = "PourPlan$Wall" then (5, 45) else if y.cls = "PourPlan$Planner" then (5, 64) else if y.cls = "PourPlan$History" then (121, 1180) else if y.cls = "PourPlan$Book" then (2, 40) else if y.cls = "PourPlan$Image" then (6, 58) else if y.cls = "PourPlan" then (164, 1630) else if y.cls = "PourPlanModel" then (8, 1373) else (0, 0)) else (0, 0)
def pArr (kd : Nat) : Prop := kd = 7 ∨ kd = 8 ∨ kd = 9 ∨ kd = 10 ∨ kd = 11

def ru_iconst (cc : ByteArray) (P : pP) : Prop := ∀ (pc q : Nat) (ls : pL) (st : List pV) (g : pG) (σ : pM) (k n : Nat) (z : Int), decode cc pc = .ok (.iconst z, 1) → pc + 1 = q → P q ls (vI z :: st) g σ k n → P pc ls (st) g σ k n
def ru_bipush (cc : ByteArray) (P : pP) : Prop := ∀ (pc q : Nat) (ls : pL) (st : List pV) (g : pG) (σ : pM) (k n : Nat) (z : Int), decode cc pc = .ok (.bipush z, 2) → pc + 2 = q → (-128 ≤ z ∧ z < 128) → P q ls (vI z :: st) g σ k n → P pc ls (st) g σ k n
def ru_sipush (cc : ByteArray) (P : pP) : Prop := ∀ (pc q : Nat) (ls : pL) (st : List pV) (g : pG) (σ : pM) (k n : Nat) (z : Int), decode cc pc = .ok (.sipush z, 3) → pc + 3 = q → (-32768 ≤ z ∧ z < 32768) → P q ls (vI z :: st) g σ k n → P pc ls (st) g σ k n
def ru_lconst (cc : ByteArray) (P : pP) : Prop := ∀ (pc q : Nat) (ls : pL) (st : List pV) (g : pG) (σ : pM) (k n : Nat) (z : Fin 2), decode cc pc = .ok (.lconst z, 1) → pc + 1 = q → P q ls (vJ ((z : Nat) : Int) :: st) g σ k n → P pc ls (st) g σ k n
def ru_ldc (y : MethodName) (cc : ByteArray) (P : pP) : Prop := ∀ (pc q : Nat) (ls : pL) (st : List pV) (g : pG) (σ : pM) (k n : Nat) (i : Nat) (z : Int), decode cc pc = .ok (.ldc i, 2) → pc + 2 = q → Cond.constant y.cls i (iv z) ∈ lw_ok → P q ls (vI z :: st) g σ k n → P pc ls (st) g σ k n
def ru_ldcw (y : MethodName) (cc : ByteArray) (P : pP) : Prop := ∀ (pc q : Nat) (ls : pL) (st : List pV) (g : pG) (σ : pM) (k n : Nat) (i : Nat) (z : Int), decode cc pc = .ok (.ldc_w i, 3) → pc + 3 = q → Cond.constant y.cls i (iv z) ∈ lw_ok → P q ls (vI z :: st) g σ k n → P pc ls (st) g σ k n
def ru_ldc2 (y : MethodName) (cc : ByteArray) (P : pP) : Prop := ∀ (pc q : Nat) (ls : pL) (st : List pV) (g : pG) (σ : pM) (k n : Nat) (i : Nat) (z : Int), decode cc pc = .ok (.ldc2_w i, 3) → pc + 3 = q → Cond.constantLong y.cls i (jv z) ∈ lw_ok → P q ls (vJ z :: st) g σ k n → P pc ls (st) g σ k n
def ru_null (cc : ByteArray) (P : pP) : Prop := ∀ (pc q : Nat) (ls : pL) (st : List pV) (g : pG) (σ : pM) (k n : Nat), decode cc pc = .ok (.aconst_null, 1) → pc + 1 = q → P q ls (vR none :: st) g σ k n → P pc ls (st) g σ k n
def ru_iloadn (cc : ByteArray) (P : pP) : Prop := ∀ (pc q : Nat) (ls : pL) (st : List pV) (g : pG) (σ : pM) (k n : Nat) (j : Fin 4) (i : Nat) (z : Int), decode cc pc = .ok (.iload_n j, 1) → pc + 1 = q → (j : Nat) = i → (i, vI z) ∈ ls → P q ls (vI z :: st) g σ k n → P pc ls (st) g σ k n
def ru_iload (cc : ByteArray) (P : pP) : Prop := ∀ (pc q : Nat) (ls : pL) (st : List pV) (g : pG) (σ : pM) (k n : Nat) (i : Nat) (z : Int), decode cc pc = .ok (.iload i, 2) → pc + 2 = q → (i, vI z) ∈ ls → P q ls (vI z :: st) g σ k n → P pc ls (st) g σ k n
def ru_aloadn (cc : ByteArray) (P : pP) : Prop := ∀ (pc q : Nat) (ls : pL) (st : List pV) (g : pG) (σ : pM) (k n : Nat) (j : Fin 4) (i : Nat) (r : Option Nat), decode cc pc = .ok (.aload_n j, 1) → pc + 1 = q → (j : Nat) = i → (i, vR r) ∈ ls → P q ls (vR r :: st) g σ k n → P pc ls (st) g σ k n
def ru_lloadn (cc : ByteArray) (P : pP) : Prop := ∀ (pc q : Nat) (ls : pL) (st : List pV) (g : pG) (σ : pM) (k n : Nat) (j : Fin 4) (i : Nat) (z : Int), decode cc pc = .ok (.lload_n j, 1) → pc + 1 = q → (j : Nat) = i → (i, vJ z) ∈ ls → P q ls (vJ z :: st) g σ k n → P pc ls (st) g σ k n
def ru_lload (cc : ByteArray) (P : pP) : Prop := ∀ (pc q : Nat) (ls : pL) (st : List pV) (g : pG) (σ : pM) (k n : Nat) (i : Nat) (z : Int), decode cc pc = .ok (.lload i, 2) → pc + 2 = q → (i, vJ z) ∈ ls → P q ls (vJ z :: st) g σ k n → P pc ls (st) g σ k n
def ru_istoren (cc : ByteArray) (nL : Nat) (P : pP) : Prop := ∀ (pc q : Nat) (ls : pL) (st : List pV) (g : pG) (σ : pM) (k n : Nat) (j : Fin 4) (i : Nat) (z : Int) (ls2 : pL), decode cc pc = .ok (.istore_n j, 1) → pc + 1 = q → (j : Nat) = i → i < nL → ls.all (fun q => !(q.1 + 1 == i && pC q.2 == 2)) = true → pSt i (vI z) ls = ls2 → P q ls2 (st) g σ k n → P pc ls (vI z :: st) g σ k n
def ru_istore (cc : ByteArray) (nL : Nat) (P : pP) : Prop := ∀ (pc q : Nat) (ls : pL) (st : List pV) (g : pG) (σ : pM) (k n : Nat) (i : Nat) (z : Int) (ls2 : pL), decode cc pc = .ok (.istore i, 2) → pc + 2 = q → i < nL → ls.all (fun q => !(q.1 + 1 == i && pC q.2 == 2)) = true → pSt i (vI z) ls = ls2 → P q ls2 (st) g σ k n → P pc ls (vI z :: st) g σ k n
def ru_astoren (cc : ByteArray) (nL : Nat) (P : pP) : Prop := ∀ (pc q : Nat) (ls : pL) (st : List pV) (g : pG) (σ : pM) (k n : Nat) (j : Fin 4) (i : Nat) (r : Option Nat) (ls2 : pL), decode cc pc = .ok (.astore_n j, 1) → pc + 1 = q → (j : Nat) = i → i < nL → ls.all (fun q => !(q.1 + 1 == i && pC q.2 == 2)) = true → pSt i (vR r) ls = ls2 → P q ls2 (st) g σ k n → P pc ls (vR r :: st) g σ k n
def ru_iinc (cc : ByteArray) (nL : Nat) (P : pP) : Prop := ∀ (pc q : Nat) (ls : pL) (st : List pV) (g : pG) (σ : pM) (k n : Nat) (i : Nat) (d z : Int) (ls2 : pL), decode cc pc = .ok (.iinc i d, 3) → pc + 3 = q → (i, vI z) ∈ ls → i < nL → ls.all (fun q => !(q.1 + 1 == i && pC q.2 == 2)) = true → pSt i (vI (z + d)) ls = ls2 → P q ls2 (st) g σ k n → P pc ls (st) g σ k n
def ru_dup (cc : ByteArray) (P : pP) : Prop := ∀ (pc q : Nat) (ls : pL) (st : List pV) (g : pG) (σ : pM) (k n : Nat) (v : pV), decode cc pc = .ok (.dup, 1) → pc + 1 = q → pC v = 1 → P q ls (v :: v :: st) g σ k n → P pc ls (v :: st) g σ k n
def ru_dup2 (cc : ByteArray) (P : pP) : Prop := ∀ (pc q : Nat) (ls : pL) (st : List pV) (g : pG) (σ : pM) (k n : Nat) (v u : pV), decode cc pc = .ok (.dup2, 1) → pc + 1 = q → pC v = 1 → pC u = 1 → P q ls (v :: u :: v :: u :: st) g σ k n → P pc ls (v :: u :: st) g σ k n
def ru_iadd (cc : ByteArray) (P : pP) : Prop := ∀ (pc q : Nat) (ls : pL) (st : List pV) (g : pG) (σ : pM) (k n : Nat) (a b : Int), decode cc pc = .ok (.iadd, 1) → pc + 1 = q → P q ls (vI (a + b) :: st) g σ k n → P pc ls (vI b :: vI a :: st) g σ k n
def ru_isub (cc : ByteArray) (P : pP) : Prop := ∀ (pc q : Nat) (ls : pL) (st : List pV) (g : pG) (σ : pM) (k n : Nat) (a b : Int), decode cc pc = .ok (.isub, 1) → pc + 1 = q → P q ls (vI (a - b) :: st) g σ k n → P pc ls (vI b :: vI a :: st) g σ k n
def ru_imul (cc : ByteArray) (P : pP) : Prop := ∀ (pc q : Nat) (ls : pL) (st : List pV) (g : pG) (σ : pM) (k n : Nat) (a b : Int), decode cc pc = .ok (.imul, 1) → pc + 1 = q → P q ls (vI (a * b) :: st) g σ k n → P pc ls (vI b :: vI a :: st) g σ k n
def ru_ladd (cc : ByteArray) (P : pP) : Prop := ∀ (pc q : Nat) (ls : pL) (st : List pV) (g : pG) (σ : pM) (k n : Nat) (a b : Int), decode cc pc = .ok (.ladd, 1) → pc + 1 = q → P q ls (vJ (a + b) :: st) g σ k n → P pc ls (vJ b :: vJ a :: st) g σ k n
def ru_lmul (cc : ByteArray) (P : pP) : Prop := ∀ (pc q : Nat) (ls : pL) (st : List pV) (g : pG) (σ : pM) (k n : Nat) (a b : Int), decode cc pc = .ok (.lmul, 1) → pc + 1 = q → P q ls (vJ (a * b) :: st) g σ k n → P pc ls (vJ b :: vJ a :: st) g σ k n
def ru_idiv (cc : ByteArray) (P : pP) : Prop := ∀ (pc q : Nat) (ls : pL) (st : List pV) (g : pG) (σ : pM) (k n : Nat) (a b : Int), decode cc pc = .ok (.idiv, 1) → pc + 1 = q → iR a → iR b → b ≠ 0 → P q ls (vI (a.tdiv b) :: st) g σ k n → P pc ls (vI b :: vI a :: st) g σ k n
def ru_irem (cc : ByteArray) (P : pP) : Prop := ∀ (pc q : Nat) (ls : pL) (st : List pV) (g : pG) (σ : pM) (k n : Nat) (a b : Int), decode cc pc = .ok (.irem, 1) → pc + 1 = q → iR a → iR b → b ≠ 0 → P q ls (vI (a.tmod b) :: st) g σ k n → P pc ls (vI b :: vI a :: st) g σ k n
def ru_lrem (cc : ByteArray) (P : pP) : Prop := ∀ (pc q : Nat) (ls : pL) (st : List pV) (g : pG) (σ : pM) (k n : Nat) (a b : Int), decode cc pc = .ok (.lrem, 1) → pc + 1 = q → jR a → jR b → b ≠ 0 → P q ls (vJ (a.tmod b) :: st) g σ k n → P pc ls (vJ b :: vJ a :: st) g σ k n
def ru_ishl (cc : ByteArray) (P : pP) : Prop := ∀ (pc q : Nat) (ls : pL) (st : List pV) (g : pG) (σ : pM) (k n : Nat) (a b : Int), decode cc pc = .ok (.ishl, 1) → pc + 1 = q → 0 ≤ a → 0 ≤ b → b < 32 → a * 2 ^ b.toNat < 4294967296 → P q ls (vI (a * 2 ^ b.toNat) :: st) g σ k n → P pc ls (vI b :: vI a :: st) g σ k n
def ru_ishr (cc : ByteArray) (P : pP) : Prop := ∀ (pc q : Nat) (ls : pL) (st : List pV) (g : pG) (σ : pM) (k n : Nat) (a b : Int), decode cc pc = .ok (.ishr, 1) → pc + 1 = q → 0 ≤ a → a < 2147483648 → 0 ≤ b → b < 32 → P q ls (vI (a / 2 ^ b.toNat) :: st) g σ k n → P pc ls (vI b :: vI a :: st) g σ k n
def ru_iushr (cc : ByteArray) (P : pP) : Prop := ∀ (pc q : Nat) (ls : pL) (st : List pV) (g : pG) (σ : pM) (k n : Nat) (a b : Int), decode cc pc = .ok (.iushr, 1) → pc + 1 = q → 0 ≤ a → a < 2147483648 → 0 ≤ b → b < 32 → P q ls (vI (a / 2 ^ b.toNat) :: st) g σ k n → P pc ls (vI b :: vI a :: st) g σ k n
def ru_ior (cc : ByteArray) (P : pP) : Prop := ∀ (pc q : Nat) (ls : pL) (st : List pV) (g : pG) (σ : pM) (k n : Nat) (a b : Int), decode cc pc = .ok (.ior, 1) → pc + 1 = q → 0 ≤ a → 0 ≤ b → P q ls (vI ((a.toNat ||| b.toNat : Nat) : Int) :: st) g σ k n → P pc ls (vI b :: vI a :: st) g σ k n
def ru_iand (cc : ByteArray) (P : pP) : Prop := ∀ (pc q : Nat) (ls : pL) (st : List pV) (g : pG) (σ : pM) (k n : Nat) (a b : Int), decode cc pc = .ok (.iand, 1) → pc + 1 = q → 0 ≤ a → 0 ≤ b → P q ls (vI ((a.toNat &&& b.toNat : Nat) : Int) :: st) g σ k n → P pc ls (vI b :: vI a :: st) g σ k n
def ru_iand31 (cc : ByteArray) (P : pP) : Prop := ∀ (pc q : Nat) (ls : pL) (st : List pV) (g : pG) (σ : pM) (k n : Nat) (a : Int), decode cc pc = .ok (.iand, 1) → pc + 1 = q → P q ls (vI (a % 32) :: st) g σ k n → P pc ls (vI 31 :: vI a :: st) g σ k n
def ru_land (cc : ByteArray) (P : pP) : Prop := ∀ (pc q : Nat) (ls : pL) (st : List pV) (g : pG) (σ : pM) (k n : Nat) (a b : Int), decode cc pc = .ok (.land, 1) → pc + 1 = q → 0 ≤ a → 0 ≤ b → P q ls (vJ ((a.toNat &&& b.toNat : Nat) : Int) :: st) g σ k n → P pc ls (vJ b :: vJ a :: st) g σ k n
def ru_i2l (cc : ByteArray) (P : pP) : Prop := ∀ (pc q : Nat) (ls : pL) (st : List pV) (g : pG) (σ : pM) (k n : Nat) (a : Int), decode cc pc = .ok (.i2l, 1) → pc + 1 = q → iR a → P q ls (vJ a :: st) g σ k n → P pc ls (vI a :: st) g σ k n
def ru_l2i (cc : ByteArray) (P : pP) : Prop := ∀ (pc q : Nat) (ls : pL) (st : List pV) (g : pG) (σ : pM) (k n : Nat) (a : Int), decode cc pc = .ok (.l2i, 1) → pc + 1 = q → 0 ≤ a → P q ls (vI a :: st) g σ k n → P pc ls (vJ a :: st) g σ k n
def ru_lcmp (cc : ByteArray) (P : pP) : Prop := ∀ (pc q : Nat) (ls : pL) (st : List pV) (g : pG) (σ : pM) (k n : Nat) (a b : Int), decode cc pc = .ok (.lcmp, 1) → pc + 1 = q → jR a → jR b → P q ls (vI (if b < a then 1 else if a = b then 0 else -1) :: st) g σ k n → P pc ls (vJ b :: vJ a :: st) g σ k n
def ru_goto (cc : ByteArray) (P : pP) : Prop := ∀ (pc q : Nat) (ls : pL) (st : List pV) (g : pG) (σ : pM) (k n : Nat) (off : Int), decode cc pc = .ok (.goto off, 3) → (pc : Int) + off = (q : Int) → P q ls (st) g σ k n → P pc ls (st) g σ k n
def ru_icmp (cc : ByteArray) (P : pP) : Prop := ∀ (pc q : Nat) (ls : pL) (st : List pV) (g : pG) (σ : pM) (k n : Nat) (t : Nat) (off : Int) (c : Jvm.ClassFile.Cond) (a b : Int), decode cc pc = .ok (.if_icmp c off, 3) → pc + 3 = q → (pc : Int) + off = (t : Int) → iR a → iR b → (pCmp c a b → P t ls (st) g σ k n) → (¬ pCmp c a b → P q ls (st) g σ k n) → P pc ls (vI b :: vI a :: st) g σ k n
def ru_ifc (cc : ByteArray) (P : pP) : Prop := ∀ (pc q : Nat) (ls : pL) (st : List pV) (g : pG) (σ : pM) (k n : Nat) (t : Nat) (off : Int) (c : Jvm.ClassFile.Cond) (a : Int), decode cc pc = .ok (.ifCond c off, 3) → pc + 3 = q → (pc : Int) + off = (t : Int) → iR a → (pCmp c a 0 → P t ls (st) g σ k n) → (¬ pCmp c a 0 → P q ls (st) g σ k n) → P pc ls (vI a :: st) g σ k n
def ru_ifnn (cc : ByteArray) (P : pP) : Prop := ∀ (pc q : Nat) (ls : pL) (st : List pV) (g : pG) (σ : pM) (k n : Nat) (t : Nat) (off : Int) (r : Option Nat), decode cc pc = .ok (.ifnonnull off, 3) → pc + 3 = q → (pc : Int) + off = (t : Int) → (r ≠ none → P t ls (st) g σ k n) → (r = none → P q ls (st) g σ k n) → P pc ls (vR r :: st) g σ k n
def ru_tsw (cc : ByteArray) (P : pP) : Prop := ∀ (pc q : Nat) (ls : pL) (st : List pV) (g : pG) (σ : pM) (k n : Nat) (dflt lo hi : Int) (offs : Array Int) (len t : Nat) (a : Int), decode cc pc = .ok (.tableswitch dflt lo hi offs, len) → iR a → (pc : Int) + dflt = (t : Int) → ((a < lo ∨ hi < a) → P t ls (st) g σ k n) → (¬ (a < lo ∨ hi < a) → ∃ off : Int, ∃ u : Nat, offs[(a - lo).toNat]? = some off ∧ (pc : Int) + off = (u : Int) ∧ P u ls (st) g σ k n) → P pc ls (vI a :: st) g σ k n
def ru_lsw (cc : ByteArray) (P : pP) : Prop := ∀ (pc q : Nat) (ls : pL) (st : List pV) (g : pG) (σ : pM) (k n : Nat) (dflt : Int) (ps : Array (Int × Int)) (len : Nat) (a : Int) (off : Int), decode cc pc = .ok (.lookupswitch dflt ps, len) → iR a → (ps.toList.zip (ps.toList.drop 1)).all (fun (a, next) => a.1 < next.1) = true → Op.lookupswitch.offset ps.toList dflt a = off → (pc : Int) + off = (q : Int) → P q ls (st) g σ k n → P pc ls (vI a :: st) g σ k n
def ru_getf (y : MethodName) (cc : ByteArray) (P : pP) : Prop := ∀ (pc q : Nat) (ls : pL) (st : List pV) (g : pG) (σ : pM) (k n : Nat) (i o ci f : Nat), decode cc pc = .ok (.getfield i, 3) → pc + 3 = q → o < g.1 → (g.2.1 o).1 = ci → ci < 7 → pFl y.cls i ci f → P q ls (pFV g σ o ci f :: st) g σ k n → P pc ls (vR (some o) :: st) g σ k n
def ru_putf (y : MethodName) (cc : ByteArray) (P : pP) : Prop := ∀ (pc q : Nat) (ls : pL) (st : List pV) (g : pG) (σ : pM) (k n : Nat) (i o ci f : Nat) (z : Int), decode cc pc = .ok (.putfield i, 3) → pc + 3 = q → o < g.1 → (g.2.1 o).1 = ci → ci < 7 → pFl y.cls i ci f → pF ci f = false → pFin ci f = false → (pZ ci f = true → z = 0 ∨ z = 1) → P q ls (st) g (up2 σ o f z) k n → P pc ls (vI z :: vR (some o) :: st) g σ k n
def ru_putr (y : MethodName) (cc : ByteArray) (P : pP) : Prop := ∀ (pc q : Nat) (ls : pL) (st : List pV) (g : pG) (σ : pM) (k n : Nat) (i o ci f : Nat) (r : Option Nat), decode cc pc = .ok (.putfield i, 3) → pc + 3 = q → o < g.1 → (g.2.1 o).1 = ci → ci < 7 → pFl y.cls i ci f → pF ci f = true → pFin ci f = true → y.name = "<init>" → vwCl[ci]?.map (fun q => q.1) = some y.cls → P q ls (st) (g.1, g.2.1, up2 g.2.2 o f r) σ k n → P pc ls (vR r :: vR (some o) :: st) g σ k n
def ru_iald (cc : ByteArray) (P : pP) : Prop := ∀ (pc q : Nat) (ls : pL) (st : List pV) (g : pG) (σ : pM) (k n : Nat) (o : Nat) (j : Int), decode cc pc = .ok (.iaload, 1) → pc + 1 = q → o < g.1 → ((g.2.1 o).1 = 7 ∨ (g.2.1 o).1 = 11) → 0 ≤ j → j < ((g.2.1 o).2 : Int) → (g.2.1 o).2 < 2147483648 → P q ls (vI (σ o j.toNat) :: st) g σ k n → P pc ls (vI j :: vR (some o) :: st) g σ k n
def ru_iast (cc : ByteArray) (P : pP) : Prop := ∀ (pc q : Nat) (ls : pL) (st : List pV) (g : pG) (σ : pM) (k n : Nat) (o : Nat) (j z : Int), decode cc pc = .ok (.iastore, 1) → pc + 1 = q → o < g.1 → (g.2.1 o).1 = 7 → 0 ≤ j → j < ((g.2.1 o).2 : Int) → (g.2.1 o).2 < 2147483648 → P q ls (st) g (up2 σ o j.toNat z) k n → P pc ls (vI z :: vI j :: vR (some o) :: st) g σ k n
def ru_zald (cc : ByteArray) (P : pP) : Prop := ∀ (pc q : Nat) (ls : pL) (st : List pV) (g : pG) (σ : pM) (k n : Nat) (o : Nat) (j : Int), decode cc pc = .ok (.baload, 1) → pc + 1 = q → o < g.1 → (g.2.1 o).1 = 8 → 0 ≤ j → j < ((g.2.1 o).2 : Int) → (g.2.1 o).2 < 2147483648 → P q ls (vI (σ o j.toNat) :: st) g σ k n → P pc ls (vI j :: vR (some o) :: st) g σ k n
def ru_zast (cc : ByteArray) (P : pP) : Prop := ∀ (pc q : Nat) (ls : pL) (st : List pV) (g : pG) (σ : pM) (k n : Nat) (o : Nat) (j z : Int), decode cc pc = .ok (.bastore, 1) → pc + 1 = q → o < g.1 → (g.2.1 o).1 = 8 → 0 ≤ j → j < ((g.2.1 o).2 : Int) → (g.2.1 o).2 < 2147483648 → (z = 0 ∨ z = 1) → P q ls (st) g (up2 σ o j.toNat z) k n → P pc ls (vI z :: vI j :: vR (some o) :: st) g σ k n
def ru_aald (cc : ByteArray) (P : pP) : Prop := ∀ (pc q : Nat) (ls : pL) (st : List pV) (g : pG) (σ : pM) (k n : Nat) (o : Nat) (j : Int), decode cc pc = .ok (.aaload, 1) → pc + 1 = q → o < g.1 → ((g.2.1 o).1 = 9 ∨ (g.2.1 o).1 = 10) → 0 ≤ j → j < ((g.2.1 o).2 : Int) → (g.2.1 o).2 < 2147483648 → P q ls (vR (g.2.2 o j.toNat) :: st) g σ k n → P pc ls (vI j :: vR (some o) :: st) g σ k n
def ru_aast (cc : ByteArray) (P : pP) : Prop := ∀ (pc q : Nat) (ls : pL) (st : List pV) (g : pG) (σ : pM) (k n : Nat) (o v : Nat) (j : Int), decode cc pc = .ok (.aastore, 1) → pc + 1 = q → o < g.1 → v < g.1 → (((g.2.1 o).1 = 9 ∧ (g.2.1 v).1 = 2) ∨ ((g.2.1 o).1 = 10 ∧ (g.2.1 v).1 = 4)) → 0 ≤ j → j < ((g.2.1 o).2 : Int) → (g.2.1 o).2 < 2147483648 → P q ls (st) (g.1, g.2.1, up2 g.2.2 o j.toNat (some v)) σ k n → P pc ls (vR (some v) :: vI j :: vR (some o) :: st) g σ k n
def ru_alen (cc : ByteArray) (P : pP) : Prop := ∀ (pc q : Nat) (ls : pL) (st : List pV) (g : pG) (σ : pM) (k n : Nat) (o : Nat), decode cc pc = .ok (.arraylength, 1) → pc + 1 = q → o < g.1 → pArr (g.2.1 o).1 → P q ls (vI ((g.2.1 o).2 : Int) :: st) g σ k n → P pc ls (vR (some o) :: st) g σ k n
def ru_new (y : MethodName) (cc : ByteArray) (bc bs : Nat) (P : pP) : Prop := ∀ (pc q : Nat) (ls : pL) (st : List pV) (g : pG) (σ : pM) (k n : Nat) (i ci : Nat) (C : String) (T : u_T), decode cc pc = .ok (.new i, 3) → pc + 3 = q → vwCl[ci]? = some (C, T, pN ci) → ci < 7 → Cond.classLink y.cls i C ∈ lw_ok → Cond.instantiable C (pN ci) ∈ lw_ok → Cond.initialized C ∈ lw_ok → k + 1 ≤ bc → n + pN ci ≤ bs → P q ls (vR (some g.1) :: st) (g.1 + 1, up1 g.2.1 g.1 (ci, 0), up1 g.2.2 g.1 (fun _ => none)) (up1 σ g.1 (fun _ => 0)) (k + 1) (n + pN ci) → P pc ls (st) g σ k n
def ru_newi (cc : ByteArray) (bc bs : Nat) (P : pP) : Prop := ∀ (pc q : Nat) (ls : pL) (st : List pV) (g : pG) (σ : pM) (k n : Nat) (N : Nat), decode cc pc = .ok (.newarray .int, 2) → pc + 2 = q → N < 100000 → k + 1 ≤ bc → n + N ≤ bs → P q ls (vR (some g.1) :: st) (g.1 + 1, up1 g.2.1 g.1 (7, N), up1 g.2.2 g.1 (fun _ => none)) (up1 σ g.1 (fun _ => 0)) (k + 1) (n + N) → P pc ls (vI (N : Int) :: st) g σ k n
def ru_newz (cc : ByteArray) (bc bs : Nat) (P : pP) : Prop := ∀ (pc q : Nat) (ls : pL) (st : List pV) (g : pG) (σ : pM) (k n : Nat) (N : Nat), decode cc pc = .ok (.newarray .boolean, 2) → pc + 2 = q → N < 100000 → k + 1 ≤ bc → n + N ≤ bs → P q ls (vR (some g.1) :: st) (g.1 + 1, up1 g.2.1 g.1 (8, N), up1 g.2.2 g.1 (fun _ => none)) (up1 σ g.1 (fun _ => 0)) (k + 1) (n + N) → P pc ls (vI (N : Int) :: st) g σ k n
def ru_newq (y : MethodName) (cc : ByteArray) (bc bs : Nat) (P : pP) : Prop := ∀ (pc q : Nat) (ls : pL) (st : List pV) (g : pG) (σ : pM) (k n : Nat) (i N kd : Nat) (C : String), decode cc pc = .ok (.anewarray i, 3) → pc + 3 = q → N < 100000 → ((kd = 9 ∧ C = "PourPlan$Image") ∨ (kd = 10 ∧ C = "PourPlan$Wall")) → Cond.classLink y.cls i C ∈ lw_ok → k + 1 ≤ bc → n + N ≤ bs → P q ls (vR (some g.1) :: st) (g.1 + 1, up1 g.2.1 g.1 (kd, N), up1 g.2.2 g.1 (fun _ => none)) (up1 σ g.1 (fun _ => 0)) (k + 1) (n + N) → P pc ls (vI (N : Int) :: st) g σ k n
def ru_oini (y : MethodName) (cc : ByteArray) (P : pP) : Prop := ∀ (pc q : Nat) (ls : pL) (st : List pV) (g : pG) (σ : pM) (k n : Nat) (i o : Nat), decode cc pc = .ok (.invokespecial i, 3) → pc + 3 = q → Cond.methodLink y.cls i objectInit ∈ lw_ok → (st.map pC).sum ≤ 8 → P q ls (st) g σ k n → P pc ls (vR (some o) :: st) g σ k n
def ru_callv (C : pH) (y : MethodName) (cc : ByteArray) (bc bs : Nat) (P : pP) : Prop := ∀ (pc q : Nat) (ls : pL) (st : List pV) (g : pG) (σ : pM) (k n : Nat) (i o ci : Nat) (z : MethodName) (as : List pV) (m : Nat) (st0 : List pV), decode cc pc = .ok (.invokevirtual i, 3) → pc + 3 = q → o < g.1 → (g.2.1 o).1 = ci → ci < 7 → vwCl[ci]?.map (fun q => q.1) = some z.cls → Cond.methodLink y.cls i z ∈ lw_ok → Cond.instanceMethod z ∈ lw_ok → Cond.selects z.cls z z ∈ lw_ok → Cond.initialized z.cls ∈ lw_ok → pPar z m → as.length = m → st0 = as.reverse ++ vR (some o) :: st → k + (pBd z).1 ≤ bc → n + (pBd z).2 ≤ bs → (st.map pC).sum ≤ 8 → C z (vR (some o) :: as) g σ (fun r g2 σ2 => P q ls (r ++ st) g2 σ2 (k + (pBd z).1) (n + (pBd z).2)) → P pc ls (st0) g σ k n
def ru_calls (C : pH) (y : MethodName) (cc : ByteArray) (bc bs : Nat) (P : pP) : Prop := ∀ (pc q : Nat) (ls : pL) (st : List pV) (g : pG) (σ : pM) (k n : Nat) (i : Nat) (z : MethodName) (as : List pV) (m : Nat) (st0 : List pV), decode cc pc = .ok (.invokestatic i, 3) → pc + 3 = q → Cond.methodLink y.cls i z ∈ lw_ok → Cond.static z ∈ lw_ok → Cond.initialized z.cls ∈ lw_ok → pPar z m → as.length = m → st0 = as.reverse ++ st → k + (pBd z).1 ≤ bc → n + (pBd z).2 ≤ bs → (st.map pC).sum ≤ 8 → C z as g σ (fun r g2 σ2 => P q ls (r ++ st) g2 σ2 (k + (pBd z).1) (n + (pBd z).2)) → P pc ls (st0) g σ k n
def ru_callsn (C : pH) (y : MethodName) (cc : ByteArray) (bc bs : Nat) (P : pP) : Prop := ∀ (pc q : Nat) (ls : pL) (st : List pV) (g : pG) (σ : pM) (k n : Nat) (i : Nat) (host : String) (z : MethodName) (as : List pV) (m : Nat) (st0 : List pV), decode cc pc = .ok (.invokestatic i, 3) → pc + 3 = q → Cond.methodLinkNest y.cls i z host ∈ lw_tbl → Cond.static z ∈ lw_ok → Cond.initialized z.cls ∈ lw_ok → pPar z m → as.length = m → st0 = as.reverse ++ st → k + (pBd z).1 ≤ bc → n + (pBd z).2 ≤ bs → (st.map pC).sum ≤ 8 → C z as g σ (fun r g2 σ2 => P q ls (r ++ st) g2 σ2 (k + (pBd z).1) (n + (pBd z).2)) → P pc ls (st0) g σ k n
def ru_calli (C : pH) (y : MethodName) (cc : ByteArray) (bc bs : Nat) (P : pP) : Prop := ∀ (pc q : Nat) (ls : pL) (st : List pV) (g : pG) (σ : pM) (k n : Nat) (i o : Nat) (z : MethodName), decode cc pc = .ok (.invokespecial i, 3) → pc + 3 = q → Cond.methodLink y.cls i z ∈ lw_ok → Cond.instanceMethod z ∈ lw_ok → Cond.initialized z.cls ∈ lw_ok → z.name = "<init>" → pPar z 0 → k + (pBd z).1 ≤ bc → n + (pBd z).2 ≤ bs → (st.map pC).sum ≤ 8 → C z [vR (some o)] g σ (fun r g2 σ2 => P q ls (r ++ st) g2 σ2 (k + (pBd z).1) (n + (pBd z).2)) → P pc ls (vR (some o) :: st) g σ k n
def ru_callin (C : pH) (y : MethodName) (cc : ByteArray) (bc bs : Nat) (P : pP) : Prop := ∀ (pc q : Nat) (ls : pL) (st : List pV) (g : pG) (σ : pM) (k n : Nat) (i o : Nat) (host : String) (z : MethodName), decode cc pc = .ok (.invokespecial i, 3) → pc + 3 = q → Cond.methodLinkNest y.cls i z host ∈ lw_tbl → Cond.instanceMethod z ∈ lw_ok → Cond.initialized z.cls ∈ lw_ok → z.name = "<init>" → pPar z 0 → k + (pBd z).1 ≤ bc → n + (pBd z).2 ≤ bs → (st.map pC).sum ≤ 8 → C z [vR (some o)] g σ (fun r g2 σ2 => P q ls (r ++ st) g2 σ2 (k + (pBd z).1) (n + (pBd z).2)) → P pc ls (vR (some o) :: st) g σ k n
def ru_iret (cc : ByteArray) (rt : Option FieldType) (bc bs : Nat) (Q : pQ) (P : pP) : Prop := ∀ (pc q : Nat) (ls : pL) (st : List pV) (g : pG) (σ : pM) (k n : Nat) (z : Int), decode cc pc = .ok (.ireturn, 1) → k ≤ bc → n ≤ bs → rt = some .int → Q [vI z] g σ → P pc ls [vI z] g σ k n
def ru_zret (cc : ByteArray) (rt : Option FieldType) (bc bs : Nat) (Q : pQ) (P : pP) : Prop := ∀ (pc q : Nat) (ls : pL) (st : List pV) (g : pG) (σ : pM) (k n : Nat) (z : Int), decode cc pc = .ok (.ireturn, 1) → k ≤ bc → n ≤ bs → rt = some .boolean → (z = 0 ∨ z = 1) → Q [vI z] g σ → P pc ls [vI z] g σ k n
def ru_aret (cc : ByteArray) (rt : Option FieldType) (bc bs : Nat) (Q : pQ) (P : pP) : Prop := ∀ (pc q : Nat) (ls : pL) (st : List pV) (g : pG) (σ : pM) (k n : Nat) (r : Option Nat) (C : String), decode cc pc = .ok (.areturn, 1) → k ≤ bc → n ≤ bs → rt = some (.object C) → Q [vR r] g σ → P pc ls [vR r] g σ k n
def ru_vret (cc : ByteArray) (rt : Option FieldType) (bc bs : Nat) (Q : pQ) (P : pP) : Prop := ∀ (pc q : Nat) (ls : pL) (st : List pV) (g : pG) (σ : pM) (k n : Nat), decode cc pc = .ok (.return_, 1) → k ≤ bc → n ≤ bs → rt = none → Q [] g σ → P pc ls [] g σ k n
def ru_sub (P : pP) : Prop := ∀ (pc q : Nat) (ls : pL) (st : List pV) (g : pG) (σ : pM) (k n : Nat) (ls2 : pL), (∀ q ∈ ls2, q ∈ ls) → P pc ls2 st g σ k n → P pc ls st g σ k n
/-- P is closed under every rule -/
def Clo (C : pH) (y : MethodName) (cc : ByteArray) (rt : Option FieldType) (nL bc bs : Nat) (Q : pQ) (P : pP) : Prop := ru_iconst cc P ∧ ru_bipush cc P ∧ ru_sipush cc P ∧ ru_lconst cc P ∧ ru_ldc y cc P ∧ ru_ldcw y cc P ∧ ru_ldc2 y cc P ∧ ru_null cc P ∧ ru_iloadn cc P ∧ ru_iload cc P ∧ ru_aloadn cc P ∧ ru_lloadn cc P ∧ ru_lload cc P ∧ ru_istoren cc nL P ∧ ru_istore cc nL P ∧ ru_astoren cc nL P ∧ ru_iinc cc nL P ∧ ru_dup cc P ∧ ru_dup2 cc P ∧ ru_iadd cc P ∧ ru_isub cc P ∧ ru_imul cc P ∧ ru_ladd cc P ∧ ru_lmul cc P ∧ ru_idiv cc P ∧ ru_irem cc P ∧ ru_lrem cc P ∧ ru_ishl cc P ∧ ru_ishr cc P ∧ ru_iushr cc P ∧ ru_ior cc P ∧ ru_iand cc P ∧ ru_iand31 cc P ∧ ru_land cc P ∧ ru_i2l cc P ∧ ru_l2i cc P ∧ ru_lcmp cc P ∧ ru_goto cc P ∧ ru_icmp cc P ∧ ru_ifc cc P ∧ ru_ifnn cc P ∧ ru_tsw cc P ∧ ru_lsw cc P ∧ ru_getf y cc P ∧ ru_putf y cc P ∧ ru_putr y cc P ∧ ru_iald cc P ∧ ru_iast cc P ∧ ru_zald cc P ∧ ru_zast cc P ∧ ru_aald cc P ∧ ru_aast cc P ∧ ru_alen cc P ∧ ru_new y cc bc bs P ∧ ru_newi cc bc bs P ∧ ru_newz cc bc bs P ∧ ru_newq y cc bc bs P ∧ ru_oini y cc P ∧ ru_callv C y cc bc bs P ∧ ru_calls C y cc bc bs P ∧ ru_callsn C y cc bc bs P ∧ ru_calli C y cc bc bs P ∧ ru_callin C y cc bc bs P ∧ ru_iret cc rt bc bs Q P ∧ ru_zret cc rt bc bs Q P ∧ ru_aret cc rt bc bs Q P ∧ ru_vret cc rt bc bs Q P ∧ ru_sub P
section GO
variable {C : pH} {y : MethodName} {cc : ByteArray} {rt : Option FieldType} {nL bc bs : Nat} {Q : pQ} {P : pP}
theorem Clo.iconst (h : Clo C y cc rt nL bc bs Q P) : ru_iconst cc P := h.1
theorem Clo.bipush (h : Clo C y cc rt nL bc bs Q P) : ru_bipush cc P := h.2.1
theorem Clo.sipush (h : Clo C y cc rt nL bc bs Q P) : ru_sipush cc P := h.2.2.1
theorem Clo.lconst (h : Clo C y cc rt nL bc bs Q P) : ru_lconst cc P := h.2.2.2.1
theorem Clo.ldc (h : Clo C y cc rt nL bc bs Q P) : ru_ldc y cc P := h.2.2.2.2.1
theorem Clo.ldcw (h : Clo C y cc rt nL bc bs Q P) : ru_ldcw y cc P := h.2.2.2.2.2.1
theorem Clo.ldc2 (h : Clo C y cc rt nL bc bs Q P) : ru_ldc2 y cc P := h.2.2.2.2.2.2.1
theorem Clo.null (h : Clo C y cc rt nL bc bs Q P) : ru_null cc P := h.2.2.2.2.2.2.2.1
theorem Clo.iloadn (h : Clo C y cc rt nL bc bs Q P) : ru_iloadn cc P := h.2.2.2.2.2.2.2.2.1
theorem Clo.iload (h : Clo C y cc rt nL bc bs Q P) : ru_iload cc P := h.2.2.2.2.2.2.2.2.2.1
theorem Clo.aloadn (h : Clo C y cc rt nL bc bs Q P) : ru_aloadn cc P := h.2.2.2.2.2.2.2.2.2.2.1
theorem Clo.lloadn (h : Clo C y cc rt nL bc bs Q P) : ru_lloadn cc P := h.2.2.2.2.2.2.2.2.2.2.2.1
theorem Clo.lload (h : Clo C y cc rt nL bc bs Q P) : ru_lload cc P := h.2.2.2.2.2.2.2.2.2.2.2.2.1
theorem Clo.istoren (h : Clo C y cc rt nL bc bs Q P) : ru_istoren cc nL P := h.2.2.2.2.2.2.2.2.2.2.2.2.2.1
theorem Clo.istore (h : Clo C y cc rt nL bc bs Q P) : ru_istore cc nL P := h.2.2.2.2.2.2.2.2.2.2.2.2.2.2.1
theorem Clo.astoren (h : Clo C y cc rt nL bc bs Q P) : ru_astoren cc nL P := h.2.2.2.2.2.2.2.2.2.2.2.2.2.2.2.1
theorem Clo.iinc (h : Clo C y cc rt nL bc bs Q P) : ru_iinc cc nL P := h.2.2.2.2.2.2.2.2.2.2.2.2.2.2.2.2.1
theorem Clo.dup (h : Clo C y cc rt nL bc bs Q P) : ru_dup cc P := h.2.2.2.2.2.2.2.2.2.2.2.2.2.2.2.2.2.1
theorem Clo.dup2 (h : Clo C y cc rt nL bc bs Q P) : ru_dup2 cc P := h.2.2.2.2.2.2.2.2.2.2.2.2.2.2.2.2.2.2.1
theorem Clo.iadd (h : Clo C y cc rt nL bc bs Q P) : ru_iadd cc P := h.2.2.2.2.2.2.2.2.2.2.2.2.2.2.2.2.2.2.2.1
theorem Clo.isub (h : Clo C y cc rt nL bc bs Q P) : ru_isub cc P := h.2.2.2.2.2.2.2.2.2.2.2.2.2.2.2.2.2.2.2.2.1
theorem Clo.imul (h : Clo C y cc rt nL bc bs Q P) : ru_imul cc P := h.2.2.2.2.2.2.2.2.2.2.2.2.2.2.2.2.2.2.2.2.2.1
theorem Clo.ladd (h : Clo C y cc rt nL bc bs Q P) : ru_ladd cc P := h.2.2.2.2.2.2.2.2.2.2.2.2.2.2.2.2.2.2.2.2.2.2.1
theorem Clo.lmul (h : Clo C y cc rt nL bc bs Q P) : ru_lmul cc P := h.2.2.2.2.2.2.2.2.2.2.2.2.2.2.2.2.2.2.2.2.2.2.2.1
theorem Clo.idiv (h : Clo C y cc rt nL bc bs Q P) : ru_idiv cc P := h.2.2.2.2.2.2.2.2.2.2.2.2.2.2.2.2.2.2.2.2.2.2.2.2.1
theorem Clo.irem (h : Clo C y cc rt nL bc bs Q P) : ru_irem cc P := h.2.2.2.2.2.2.2.2.2.2.2.2.2.2.2.2.2.2.2.2.2.2.2.2.2.1
theorem Clo.lrem (h : Clo C y cc rt nL bc bs Q P) : ru_lrem cc P := h.2.2.2.2.2.2.2.2.2.2.2.2.2.2.2.2.2.2.2.2.2.2.2.2.2.2.1
theorem Clo.ishl (h : Clo C y cc rt nL bc bs Q P) : ru_ishl cc P := h.2.2.2.2.2.2.2.2.2.2.2.2.2.2.2.2.2.2.2.2.2.2.2.2.2.2.2.1
theorem Clo.ishr (h : Clo C y cc rt nL bc bs Q P) : ru_ishr cc P := h.2.2.2.2.2.2.2.2.2.2.2.2.2.2.2.2.2.2.2.2.2.2.2.2.2.2.2.2.1
theorem Clo.iushr (h : Clo C y cc rt nL bc bs Q P) : ru_iushr cc P := h.2.2.2.2.2.2.2.2.2.2.2.2.2.2.2.2.2.2.2.2.2.2.2.2.2.2.2.2.2.1
theorem Clo.ior (h : Clo C y cc rt nL bc bs Q P) : ru_ior cc P := h.2.2.2.2.2.2.2.2.2.2.2.2.2.2.2.2.2.2.2.2.2.2.2.2.2.2.2.2.2.2.1
theorem Clo.iand (h : Clo C y cc rt nL bc bs Q P) : ru_iand cc P := h.2.2.2.2.2.2.2.2.2.2.2.2.2.2.2.2.2.2.2.2.2.2.2.2.2.2.2.2.2.2.2.1
theorem Clo.iand31 (h : Clo C y cc rt nL bc bs Q P) : ru_iand31 cc P := h.2.2.2.2.2.2.2.2.2.2.2.2.2.2.2.2.2.2.2.2.2.2.2.2.2.2.2.2.2.2.2.2.1
theorem Clo.land (h : Clo C y cc rt nL bc bs Q P) : ru_land cc P := h.2.2.2.2.2.2.2.2.2.2.2.2.2.2.2.2.2.2.2.2.2.2.2.2.2.2.2.2.2.2.2.2.2.1
theorem Clo.i2l (h : Clo C y cc rt nL bc bs Q P) : ru_i2l cc P := h.2.2.2.2.2.2.2.2.2.2.2.2.2.2.2.2.2.2.2.2.2.2.2.2.2.2.2.2.2.2.2.2.2.2.1
theorem Clo.l2i (h : Clo C y cc rt nL bc bs Q P) : ru_l2i cc P := h.2.2.2.2.2.2.2.2.2.2.2.2.2.2.2.2.2.2.2.2.2.2.2.2.2.2.2.2.2.2.2.2.2.2.2.1
theorem Clo.lcmp (h : Clo C y cc rt nL bc bs Q P) : ru_lcmp cc P := h.2.2.2.2.2.2.2.2.2.2.2.2.2.2.2.2.2.2.2.2.2.2.2.2.2.2.2.2.2.2.2.2.2.2.2.2.1
theorem Clo.goto (h : Clo C y cc rt nL bc bs Q P) : ru_goto cc P := h.2.2.2.2.2.2.2.2.2.2.2.2.2.2.2.2.2.2.2.2.2.2.2.2.2.2.2.2.2.2.2.2.2.2.2.2.2.1
theorem Clo.icmp (h : Clo C y cc rt nL bc bs Q P) : ru_icmp cc P := h.2.2.2.2.2.2.2.2.2.2.2.2.2.2.2.2.2.2.2.2.2.2.2.2.2.2.2.2.2.2.2.2.2.2.2.2.2.2.1
theorem Clo.ifc (h : Clo C y cc rt nL bc bs Q P) : ru_ifc cc P := h.2.2.2.2.2.2.2.2.2.2.2.2.2.2.2.2.2.2.2.2.2.2.2.2.2.2.2.2.2.2.2.2.2.2.2.2.2.2.2.1
theorem Clo.ifnn (h : Clo C y cc rt nL bc bs Q P) : ru_ifnn cc P := h.2.2.2.2.2.2.2.2.2.2.2.2.2.2.2.2.2.2.2.2.2.2.2.2.2.2.2.2.2.2.2.2.2.2.2.2.2.2.2.2.1
theorem Clo.tsw (h : Clo C y cc rt nL bc bs Q P) : ru_tsw cc P := h.2.2.2.2.2.2.2.2.2.2.2.2.2.2.2.2.2.2.2.2.2.2.2.2.2.2.2.2.2.2.2.2.2.2.2.2.2.2.2.2.2.1
theorem Clo.lsw (h : Clo C y cc rt nL bc bs Q P) : ru_lsw cc P := h.2.2.2.2.2.2.2.2.2.2.2.2.2.2.2.2.2.2.2.2.2.2.2.2.2.2.2.2.2.2.2.2.2.2.2.2.2.2.2.2.2.2.1
theorem Clo.getf (h : Clo C y cc rt nL bc bs Q P) : ru_getf y cc P := h.2.2.2.2.2.2.2.2.2.2.2.2.2.2.2.2.2.2.2.2.2.2.2.2.2.2.2.2.2.2.2.2.2.2.2.2.2.2.2.2.2.2.2.1
theorem Clo.putf (h : Clo C y cc rt nL bc bs Q P) : ru_putf y cc P := h.2.2.2.2.2.2.2.2.2.2.2.2.2.2.2.2.2.2.2.2.2.2.2.2.2.2.2.2.2.2.2.2.2.2.2.2.2.2.2.2.2.2.2.2.1
theorem Clo.putr (h : Clo C y cc rt nL bc bs Q P) : ru_putr y cc P := h.2.2.2.2.2.2.2.2.2.2.2.2.2.2.2.2.2.2.2.2.2.2.2.2.2.2.2.2.2.2.2.2.2.2.2.2.2.2.2.2.2.2.2.2.2.1
theorem Clo.iald (h : Clo C y cc rt nL bc bs Q P) : ru_iald cc P := h.2.2.2.2.2.2.2.2.2.2.2.2.2.2.2.2.2.2.2.2.2.2.2.2.2.2.2.2.2.2.2.2.2.2.2.2.2.2.2.2.2.2.2.2.2.2.1
theorem Clo.iast (h : Clo C y cc rt nL bc bs Q P) : ru_iast cc P := h.2.2.2.2.2.2.2.2.2.2.2.2.2.2.2.2.2.2.2.2.2.2.2.2.2.2.2.2.2.2.2.2.2.2.2.2.2.2.2.2.2.2.2.2.2.2.2.1
theorem Clo.zald (h : Clo C y cc rt nL bc bs Q P) : ru_zald cc P := h.2.2.2.2.2.2.2.2.2.2.2.2.2.2.2.2.2.2.2.2.2.2.2.2.2.2.2.2.2.2.2.2.2.2.2.2.2.2.2.2.2.2.2.2.2.2.2.2.1
theorem Clo.zast (h : Clo C y cc rt nL bc bs Q P) : ru_zast cc P := h.2.2.2.2.2.2.2.2.2.2.2.2.2.2.2.2.2.2.2.2.2.2.2.2.2.2.2.2.2.2.2.2.2.2.2.2.2.2.2.2.2.2.2.2.2.2.2.2.2.1
theorem Clo.aald (h : Clo C y cc rt nL bc bs Q P) : ru_aald cc P := h.2.2.2.2.2.2.2.2.2.2.2.2.2.2.2.2.2.2.2.2.2.2.2.2.2.2.2.2.2.2.2.2.2.2.2.2.2.2.2.2.2.2.2.2.2.2.2.2.2.2.1
theorem Clo.aast (h : Clo C y cc rt nL bc bs Q P) : ru_aast cc P := h.2.2.2.2.2.2.2.2.2.2.2.2.2.2.2.2.2.2.2.2.2.2.2.2.2.2.2.2.2.2.2.2.2.2.2.2.2.2.2.2.2.2.2.2.2.2.2.2.2.2.2.1
theorem Clo.alen (h : Clo C y cc rt nL bc bs Q P) : ru_alen cc P := h.2.2.2.2.2.2.2.2.2.2.2.2.2.2.2.2.2.2.2.2.2.2.2.2.2.2.2.2.2.2.2.2.2.2.2.2.2.2.2.2.2.2.2.2.2.2.2.2.2.2.2.2.1
theorem Clo.new (h : Clo C y cc rt nL bc bs Q P) : ru_new y cc bc bs P := h.2.2.2.2.2.2.2.2.2.2.2.2.2.2.2.2.2.2.2.2.2.2.2.2.2.2.2.2.2.2.2.2.2.2.2.2.2.2.2.2.2.2.2.2.2.2.2.2.2.2.2.2.2.1
theorem Clo.newi (h : Clo C y cc rt nL bc bs Q P) : ru_newi cc bc bs P := h.2.2.2.2.2.2.2.2.2.2.2.2.2.2.2.2.2.2.2.2.2.2.2.2.2.2.2.2.2.2.2.2.2.2.2.2.2.2.2.2.2.2.2.2.2.2.2.2.2.2.2.2.2.2.1
theorem Clo.newz (h : Clo C y cc rt nL bc bs Q P) : ru_newz cc bc bs P := h.2.2.2.2.2.2.2.2.2.2.2.2.2.2.2.2.2.2.2.2.2.2.2.2.2.2.2.2.2.2.2.2.2.2.2.2.2.2.2.2.2.2.2.2.2.2.2.2.2.2.2.2.2.2.2.1
theorem Clo.newq (h : Clo C y cc rt nL bc bs Q P) : ru_newq y cc bc bs P := h.2.2.2.2.2.2.2.2.2.2.2.2.2.2.2.2.2.2.2.2.2.2.2.2.2.2.2.2.2.2.2.2.2.2.2.2.2.2.2.2.2.2.2.2.2.2.2.2.2.2.2.2.2.2.2.2.1
theorem Clo.oini (h : Clo C y cc rt nL bc bs Q P) : ru_oini y cc P := h.2.2.2.2.2.2.2.2.2.2.2.2.2.2.2.2.2.2.2.2.2.2.2.2.2.2.2.2.2.2.2.2.2.2.2.2.2.2.2.2.2.2.2.2.2.2.2.2.2.2.2.2.2.2.2.2.2.1
theorem Clo.callv (h : Clo C y cc rt nL bc bs Q P) : ru_callv C y cc bc bs P := h.2.2.2.2.2.2.2.2.2.2.2.2.2.2.2.2.2.2.2.2.2.2.2.2.2.2.2.2.2.2.2.2.2.2.2.2.2.2.2.2.2.2.2.2.2.2.2.2.2.2.2.2.2.2.2.2.2.2.1
theorem Clo.calls (h : Clo C y cc rt nL bc bs Q P) : ru_calls C y cc bc bs P := h.2.2.2.2.2.2.2.2.2.2.2.2.2.2.2.2.2.2.2.2.2.2.2.2.2.2.2.2.2.2.2.2.2.2.2.2.2.2.2.2.2.2.2.2.2.2.2.2.2.2.2.2.2.2.2.2.2.2.2.1
theorem Clo.callsn (h : Clo C y cc rt nL bc bs Q P) : ru_callsn C y cc bc bs P := h.2.2.2.2.2.2.2.2.2.2.2.2.2.2.2.2.2.2.2.2.2.2.2.2.2.2.2.2.2.2.2.2.2.2.2.2.2.2.2.2.2.2.2.2.2.2.2.2.2.2.2.2.2.2.2.2.2.2.2.2.1
theorem Clo.calli (h : Clo C y cc rt nL bc bs Q P) : ru_calli C y cc bc bs P := h.2.2.2.2.2.2.2.2.2.2.2.2.2.2.2.2.2.2.2.2.2.2.2.2.2.2.2.2.2.2.2.2.2.2.2.2.2.2.2.2.2.2.2.2.2.2.2.2.2.2.2.2.2.2.2.2.2.2.2.2.2.1
theorem Clo.callin (h : Clo C y cc rt nL bc bs Q P) : ru_callin C y cc bc bs P := h.2.2.2.2.2.2.2.2.2.2.2.2.2.2.2.2.2.2.2.2.2.2.2.2.2.2.2.2.2.2.2.2.2.2.2.2.2.2.2.2.2.2.2.2.2.2.2.2.2.2.2.2.2.2.2.2.2.2.2.2.2.2.1
theorem Clo.iret (h : Clo C y cc rt nL bc bs Q P) : ru_iret cc rt bc bs Q P := h.2.2.2.2.2.2.2.2.2.2.2.2.2.2.2.2.2.2.2.2.2.2.2.2.2.2.2.2.2.2.2.2.2.2.2.2.2.2.2.2.2.2.2.2.2.2.2.2.2.2.2.2.2.2.2.2.2.2.2.2.2.2.2.1
theorem Clo.zret (h : Clo C y cc rt nL bc bs Q P) : ru_zret cc rt bc bs Q P := h.2.2.2.2.2.2.2.2.2.2.2.2.2.2.2.2.2.2.2.2.2.2.2.2.2.2.2.2.2.2.2.2.2.2.2.2.2.2.2.2.2.2.2.2.2.2.2.2.2.2.2.2.2.2.2.2.2.2.2.2.2.2.2.2.1
theorem Clo.aret (h : Clo C y cc rt nL bc bs Q P) : ru_aret cc rt bc bs Q P := h.2.2.2.2.2.2.2.2.2.2.2.2.2.2.2.2.2.2.2.2.2.2.2.2.2.2.2.2.2.2.2.2.2.2.2.2.2.2.2.2.2.2.2.2.2.2.2.2.2.2.2.2.2.2.2.2.2.2.2.2.2.2.2.2.2.1
theorem Clo.vret (h : Clo C y cc rt nL bc bs Q P) : ru_vret cc rt bc bs Q P := h.2.2.2.2.2.2.2.2.2.2.2.2.2.2.2.2.2.2.2.2.2.2.2.2.2.2.2.2.2.2.2.2.2.2.2.2.2.2.2.2.2.2.2.2.2.2.2.2.2.2.2.2.2.2.2.2.2.2.2.2.2.2.2.2.2.2.1
theorem Clo.sub (h : Clo C y cc rt nL bc bs Q P) : ru_sub P := h.2.2.2.2.2.2.2.2.2.2.2.2.2.2.2.2.2.2.2.2.2.2.2.2.2.2.2.2.2.2.2.2.2.2.2.2.2.2.2.2.2.2.2.2.2.2.2.2.2.2.2.2.2.2.2.2.2.2.2.2.2.2.2.2.2.2.2
end GO
/-- a call, at most d deep: whatever is closed under the rules of its body holds at its entry -/
def pCall : Nat → pH
  | 0 => fun _ _ _ _ _ => False
  | d + 1 => fun z as g σ Q => ∃ (cc : ByteArray) (nL : Nat) (rt : Option FieldType), Cond.code z cc nL rt ∈ lw_ok ∧ plainName z.cls = true ∧ nL ≤ 40 ∧ (as.map pC).sum ≤ nL ∧ ∀ P : pP, Clo (pCall d) z cc rt nL (pBd z).1 (pBd z).2 Q P → P 0 (pAg 0 as) [] g σ 0 0
end
section
/-! The rules are sound, one: what touches no cell -/
def pAt (D : va_G) (cy : Nat → ClassId) (B b : Nat) (g : pG) (σ : pM) (o : Nat) (H : Heap) : Prop :=
  ((g.2.1 o).1 < 7 → t_OB (tA B b o) (D.1 (g.2.1 o).1) (pN (g.2.1 o).1) (D.2 (g.2.1 o).1) H (fun j => tV B b (pFV g σ o (g.2.1 o).1 j))) ∧
  (¬ (g.2.1 o).1 < 7 → (g.2.1 o).1 ≤ 10 ∧ H[tA B b o]? = some (arrV (cy (g.2.1 o).1) (g.2.1 o).2 (fun j => tV B b (if (g.2.1 o).1 < 9 then vI (σ o j) else vR (g.2.2 o j)))))
/-- the heap is the world: the script at b, the made cells from B on, no other behind them -/
def pW (D : va_G) (cy : Nat → ClassId) (B b : Nat) (U : State) (g : pG) (σ : pM) (H : Heap) : Prop :=
  H.size + 1 = B + g.1 ∧ b < B ∧ (g.2.1 0).1 = 11 ∧ 1 ≤ g.1 ∧ va_X b (g.2.1 0).2 (fun j => iv (σ 0 j)) U H ∧ ∀ o, 0 < o → o < g.1 → pAt D cy B b g σ o H
abbrev pTy (cy : Nat → ClassId) : List (ClassId × FieldType) := [(cy 7, .int), (cy 8, .boolean), (cy 9, .object "PourPlan$Image"), (cy 10, .object "PourPlan$Wall")]
/-- what must be told of the tables besides -/
def pNst (U : State) : Prop := (∀ (a : String) (i : Nat) (x : MethodName) (h : String), Cond.methodLinkNest a i x h ∈ lw_tbl → va_Nw (.methodLinkNest a i x h) U) ∧ va_AO "PourPlan$Image" U ∧ va_AO "PourPlan$Wall" U
def pX (p : Program) (s : State) (m : MethodId) (args : Array Value) (c : Code) (D : va_G) (cy : Nat → ClassId) (y : MethodName) (cc : ByteArray) (nL : Nat) : Prop :=
  p.tables.exec = Jvm.exec ∧ c.code = cc ∧ c.maxLocals = nL ∧ s.vm.findClass y.cls = some m.cls ∧ (∀ w ∈ lw_ok, w.before args s = true) ∧ va_K D vwCl (pTy cy) s ∧ pNst s
/-- the predicate of which the rules are proved: the machine comes to Qf from every heap that is that world -/
def pS (p : Program) (l : Launch) (e : Env) (R : Room) (s : State) (m : MethodId) (args : Array Value) (below : List Frame) (meth : Method) (c : Code) (D : va_G) (cy : Nat → ClassId) (B b nL : Nat) (Qf : State → Prop) : pP :=
  fun pc ls st g σ k n => ∀ (H : Heap) (locs : List Loc) (l0 : Array Slot), pW D cy B b s g σ H → va_S (fun q => B ≤ q) s.heap H locs → lv_has l0 nL (ls.map (fun q => (q.1, tV B b q.2))) → W p l e R s m args below meth c H locs k n Qf (F0 m pc l0 (st.map (tV B b)))
theorem tV_cat (B b : Nat) (v : pV) : (tV B b v).category = pC v := by
  rcases v with z | z | r
  · rfl
  · rfl
  · cases r <;> rfl
theorem pSt_mem {i : Nat} {v : pV} : ∀ {ls : pL} {q : Nat × pV}, q ∈ pSt i v ls → q = (i, v) ∨ (q ∈ ls ∧ q.1 ≠ i)
  | [], q, h => Or.inl (by simpa [pSt] using h)
  | r :: t, q, h => by
    unfold pSt at h
    split at h
    · rcases List.mem_cons.mp h with h | h
      · exact Or.inl h
      · rw [List.mem_filter] at h
        exact Or.inr ⟨List.mem_cons_of_mem _ h.1, by simpa using h.2⟩
    · rename_i h1
      split at h
      · rcases List.mem_cons.mp h with h | h
        · exact Or.inl h
        · rcases List.mem_cons.mp h with h | h
          · exact Or.inr ⟨by rw [h]; exact List.mem_cons_self, by rw [h]; exact h1⟩
          · rw [List.mem_filter] at h
            exact Or.inr ⟨List.mem_cons_of_mem _ h.1, by simpa using h.2⟩
      · rcases List.mem_cons.mp h with h | h
        · exact Or.inr ⟨by rw [h]; exact List.mem_cons_self, by rw [h]; exact h1⟩
        · rcases pSt_mem h with h | h
          · exact Or.inl h
          · exact Or.inr ⟨List.mem_cons_of_mem _ h.1, h.2⟩
/-- the kit's new list of locals holds ours -/
theorem pSt_has {B b nL i : Nat} {v : pV} {ls : pL} {l1 : Array Slot} (h2 : ls.all (fun q => !(q.1 + 1 == i && pC q.2 == 2)) = true) (h : lv_has l1 nL ((i, tV B b v) :: (ls.map (fun q => (q.1, tV B b q.2))).filter (fun q => !(q.1 == i) && !(q.1 + 1 == i && q.2.category == 2)))) : lv_has l1 nL ((pSt i v ls).map (fun q => (q.1, tV B b q.2))) := by
  refine ⟨h.1, h.2.1, fun q hq => ?_⟩
  obtain ⟨r, hr, rfl⟩ := List.mem_map.mp hq
  rcases pSt_mem hr with rfl | ⟨h3, h4⟩
  · exact h.2.2 _ List.mem_cons_self
  · refine h.2.2 _ (List.mem_cons_of_mem _ (List.mem_filter.mpr ⟨List.mem_map.mpr ⟨r, h3, rfl⟩, ?_⟩))
    have h5 := List.all_eq_true.mp h2 r h3
    simp only [tV_cat]
    simp only [Bool.and_eq_true]
    exact ⟨by simpa using h4, h5⟩
section SO
variable {p : Program} {l : Launch} {e : Env} {R : Room} {s : State} {m : MethodId} {args : Array Value} {below : List Frame} {meth : Method} {c : Code} {D : va_G} {cy : Nat → ClassId} {B b : Nat} {Qf : State → Prop} {y : MethodName} {cc : ByteArray} {nL : Nat}

theorem so_iconst (X : pX p s m args c D cy y cc nL) : ru_iconst cc (pS p l e R s m args below meth c D cy B b nL Qf) := by
  obtain ⟨hx, hb, hml, hown, hts, hK, hN⟩ := X
  intro pc q ls st g σ k n z hd hq kk H locs l0 hW hS hl
  subst hq
  exact lv_iconst hx hb hd rfl (kk H locs l0 hW hS hl)
theorem so_bipush (X : pX p s m args c D cy y cc nL) : ru_bipush cc (pS p l e R s m args below meth c D cy B b nL Qf) := by
  obtain ⟨hx, hb, hml, hown, hts, hK, hN⟩ := X
  intro pc q ls st g σ k n z hd hq h kk H locs l0 hW hS hl
  subst hq
  exact lv_bipush hx hb hd (iv_bi h) (kk H locs l0 hW hS hl)
theorem so_sipush (X : pX p s m args c D cy y cc nL) : ru_sipush cc (pS p l e R s m args below meth c D cy B b nL Qf) := by
  obtain ⟨hx, hb, hml, hown, hts, hK, hN⟩ := X
  intro pc q ls st g σ k n z hd hq h kk H locs l0 hW hS hl
  subst hq
  exact lv_sipush hx hb hd (iv_si h) (kk H locs l0 hW hS hl)
theorem so_lconst (X : pX p s m args c D cy y cc nL) : ru_lconst cc (pS p l e R s m args below meth c D cy B b nL Qf) := by
  obtain ⟨hx, hb, hml, hown, hts, hK, hN⟩ := X
  intro pc q ls st g σ k n z hd hq kk H locs l0 hW hS hl
  subst hq
  exact lv_lconst hx hb hd (jv_nat z).symm (kk H locs l0 hW hS hl)
theorem so_ldc (X : pX p s m args c D cy y cc nL) : ru_ldc y cc (pS p l e R s m args below meth c D cy B b nL Qf) := by
  obtain ⟨hx, hb, hml, hown, hts, hK, hN⟩ := X
  intro pc q ls st g σ k n i z hd hq h kk H locs l0 hW hS hl
  subst hq
  exact lv_ldc hx hb hown (hts _ h) hd (kk H locs l0 hW hS hl)
theorem so_ldcw (X : pX p s m args c D cy y cc nL) : ru_ldcw y cc (pS p l e R s m args below meth c D cy B b nL Qf) := by
  obtain ⟨hx, hb, hml, hown, hts, hK, hN⟩ := X
  intro pc q ls st g σ k n i z hd hq h kk H locs l0 hW hS hl
  subst hq
  exact lv_ldcw hx hb hown (hts _ h) hd (kk H locs l0 hW hS hl)
theorem so_ldc2 (X : pX p s m args c D cy y cc nL) : ru_ldc2 y cc (pS p l e R s m args below meth c D cy B b nL Qf) := by
  obtain ⟨hx, hb, hml, hown, hts, hK, hN⟩ := X
  intro pc q ls st g σ k n i z hd hq h kk H locs l0 hW hS hl
  subst hq
  exact lv_ldc2 hx hb hown (hts _ h) hd (kk H locs l0 hW hS hl)
theorem so_null (X : pX p s m args c D cy y cc nL) : ru_null cc (pS p l e R s m args below meth c D cy B b nL Qf) := by
  obtain ⟨hx, hb, hml, hown, hts, hK, hN⟩ := X
  intro pc q ls st g σ k n hd hq kk H locs l0 hW hS hl
  subst hq
  exact lv_null hx hb hd (kk H locs l0 hW hS hl)
theorem so_iloadn (X : pX p s m args c D cy y cc nL) : ru_iloadn cc (pS p l e R s m args below meth c D cy B b nL Qf) := by
  obtain ⟨hx, hb, hml, hown, hts, hK, hN⟩ := X
  intro pc q ls st g σ k n j i z hd hq hj hm kk H locs l0 hW hS hl
  subst hq
  exact lv_iload_n hx hb hd hj (hl.2.2 _ (List.mem_map.mpr ⟨_, hm, rfl⟩)) (kk H locs l0 hW hS hl)
theorem so_iload (X : pX p s m args c D cy y cc nL) : ru_iload cc (pS p l e R s m args below meth c D cy B b nL Qf) := by
  obtain ⟨hx, hb, hml, hown, hts, hK, hN⟩ := X
  intro pc q ls st g σ k n i z hd hq hm kk H locs l0 hW hS hl
  subst hq
  exact lv_iload hx hb hd (hl.2.2 _ (List.mem_map.mpr ⟨_, hm, rfl⟩)) (kk H locs l0 hW hS hl)
theorem so_aloadn (X : pX p s m args c D cy y cc nL) : ru_aloadn cc (pS p l e R s m args below meth c D cy B b nL Qf) := by
  obtain ⟨hx, hb, hml, hown, hts, hK, hN⟩ := X
  intro pc q ls st g σ k n j i r hd hq hj hm kk H locs l0 hW hS hl
  subst hq
  cases r with
  | none => exact lv_aload_nN hx hb hd hj (hl.2.2 _ (List.mem_map.mpr ⟨_, hm, rfl⟩)) (kk H locs l0 hW hS hl)
  | some o => exact lv_aload_n hx hb hd hj (hl.2.2 _ (List.mem_map.mpr ⟨_, hm, rfl⟩)) (kk H locs l0 hW hS hl)
theorem so_lloadn (X : pX p s m args c D cy y cc nL) : ru_lloadn cc (pS p l e R s m args below meth c D cy B b nL Qf) := by
  obtain ⟨hx, hb, hml, hown, hts, hK, hN⟩ := X
  intro pc q ls st g σ k n j i z hd hq hj hm kk H locs l0 hW hS hl
  subst hq
  exact lv_lload_n hx hb hd hj (hl.2.2 _ (List.mem_map.mpr ⟨_, hm, rfl⟩)) (kk H locs l0 hW hS hl)
theorem so_lload (X : pX p s m args c D cy y cc nL) : ru_lload cc (pS p l e R s m args below meth c D cy B b nL Qf) := by
  obtain ⟨hx, hb, hml, hown, hts, hK, hN⟩ := X
  intro pc q ls st g σ k n i z hd hq hm kk H locs l0 hW hS hl
  subst hq
  exact lv_lload hx hb hd (hl.2.2 _ (List.mem_map.mpr ⟨_, hm, rfl⟩)) (kk H locs l0 hW hS hl)
theorem so_istoren (X : pX p s m args c D cy y cc nL) : ru_istoren cc nL (pS p l e R s m args below meth c D cy B b nL Qf) := by
  obtain ⟨hx, hb, hml, hown, hts, hK, hN⟩ := X
  intro pc q ls st g σ k n j i z ls2 hd hq hj hn h2 he kk H locs l0 hW hS hl
  subst hq
  exact lv_istore_n hx hb hd hj hl hn rfl (fun l1 h1 => kk H locs l1 hW hS (by rw [← he]; exact pSt_has h2 h1))
theorem so_istore (X : pX p s m args c D cy y cc nL) : ru_istore cc nL (pS p l e R s m args below meth c D cy B b nL Qf) := by
  obtain ⟨hx, hb, hml, hown, hts, hK, hN⟩ := X
  intro pc q ls st g σ k n i z ls2 hd hq hn h2 he kk H locs l0 hW hS hl
  subst hq
  exact lv_istore hx hb hd hl hn rfl (fun l1 h1 => kk H locs l1 hW hS (by rw [← he]; exact pSt_has h2 h1))
theorem so_astoren (X : pX p s m args c D cy y cc nL) : ru_astoren cc nL (pS p l e R s m args below meth c D cy B b nL Qf) := by
  obtain ⟨hx, hb, hml, hown, hts, hK, hN⟩ := X
  intro pc q ls st g σ k n j i r ls2 hd hq hj hn h2 he kk H locs l0 hW hS hl
  subst hq
  cases r with
  | none => exact lv_astore_nN hx hb hd hj hl hn rfl (fun l1 h1 => kk H locs l1 hW hS (by rw [← he]; exact pSt_has h2 h1))
  | some o => exact lv_astore_n hx hb hd hj hl hn rfl (fun l1 h1 => kk H locs l1 hW hS (by rw [← he]; exact pSt_has h2 h1))
theorem so_iinc (X : pX p s m args c D cy y cc nL) : ru_iinc cc nL (pS p l e R s m args below meth c D cy B b nL Qf) := by
  obtain ⟨hx, hb, hml, hown, hts, hK, hN⟩ := X
  intro pc q ls st g σ k n i d z ls2 hd hq hm hn h2 he kk H locs l0 hW hS hl
  subst hq
  obtain ⟨k0, hk0⟩ := List.getElem?_of_mem (List.mem_map.mpr ⟨_, hm, rfl⟩ : (i, tV B b (vI z)) ∈ ls.map (fun q => (q.1, tV B b q.2)))
  exact lv_iinc hx hb hd hl hk0 (iv_add z d).symm hn rfl (fun l1 h1 => kk H locs l1 hW hS (by rw [← he]; exact pSt_has h2 h1))
theorem so_dup (X : pX p s m args c D cy y cc nL) : ru_dup cc (pS p l e R s m args below meth c D cy B b nL Qf) := by
  obtain ⟨hx, hb, hml, hown, hts, hK, hN⟩ := X
  intro pc q ls st g σ k n v hd hq h1 kk H locs l0 hW hS hl
  subst hq
  exact lv_dup hx hb hd ((tV_cat B b v).trans h1) (kk H locs l0 hW hS hl)
theorem so_dup2 (X : pX p s m args c D cy y cc nL) : ru_dup2 cc (pS p l e R s m args below meth c D cy B b nL Qf) := by
  obtain ⟨hx, hb, hml, hown, hts, hK, hN⟩ := X
  intro pc q ls st g σ k n v u hd hq h1 h2 kk H locs l0 hW hS hl
  subst hq
  exact lv_dup2_11 hx hb hd ((tV_cat B b v).trans h1) ((tV_cat B b u).trans h2) (kk H locs l0 hW hS hl)
theorem so_iadd (X : pX p s m args c D cy y cc nL) : ru_iadd cc (pS p l e R s m args below meth c D cy B b nL Qf) := by
  obtain ⟨hx, hb, hml, hown, hts, hK, hN⟩ := X
  intro pc q ls st g σ k n a b1 hd hq kk H locs l0 hW hS hl
  subst hq
  refine lv_iadd hx hb hd ?_
  rw [← iv_add]
  exact kk H locs l0 hW hS hl
theorem so_isub (X : pX p s m args c D cy y cc nL) : ru_isub cc (pS p l e R s m args below meth c D cy B b nL Qf) := by
  obtain ⟨hx, hb, hml, hown, hts, hK, hN⟩ := X
  intro pc q ls st g σ k n a b1 hd hq kk H locs l0 hW hS hl
  subst hq
  refine lv_isub hx hb hd ?_
  rw [← iv_sub]
  exact kk H locs l0 hW hS hl
theorem so_imul (X : pX p s m args c D cy y cc nL) : ru_imul cc (pS p l e R s m args below meth c D cy B b nL Qf) := by
  obtain ⟨hx, hb, hml, hown, hts, hK, hN⟩ := X
  intro pc q ls st g σ k n a b1 hd hq kk H locs l0 hW hS hl
  subst hq
  refine lv_imul hx hb hd ?_
  rw [← iv_mul]
  exact kk H locs l0 hW hS hl
theorem so_ladd (X : pX p s m args c D cy y cc nL) : ru_ladd cc (pS p l e R s m args below meth c D cy B b nL Qf) := by
  obtain ⟨hx, hb, hml, hown, hts, hK, hN⟩ := X
  intro pc q ls st g σ k n a b1 hd hq kk H locs l0 hW hS hl
  subst hq
  refine lv_ladd hx hb hd ?_
  rw [← jv_add]
  exact kk H locs l0 hW hS hl
theorem so_lmul (X : pX p s m args c D cy y cc nL) : ru_lmul cc (pS p l e R s m args below meth c D cy B b nL Qf) := by
  obtain ⟨hx, hb, hml, hown, hts, hK, hN⟩ := X
  intro pc q ls st g σ k n a b1 hd hq kk H locs l0 hW hS hl
  subst hq
  refine lv_lmul hx hb hd ?_
  rw [← jv_mul]
  exact kk H locs l0 hW hS hl
theorem so_idiv (X : pX p s m args c D cy y cc nL) : ru_idiv cc (pS p l e R s m args below meth c D cy B b nL Qf) := by
  obtain ⟨hx, hb, hml, hown, hts, hK, hN⟩ := X
  intro pc q ls st g σ k n a b1 hd hq h1 h2 h3 kk H locs l0 hW hS hl
  subst hq
  refine lv_idiv hx hb hd (iv_ne0 h2 h3) ?_
  rw [← iv_div h1 h2]
  exact kk H locs l0 hW hS hl
theorem so_irem (X : pX p s m args c D cy y cc nL) : ru_irem cc (pS p l e R s m args below meth c D cy B b nL Qf) := by
  obtain ⟨hx, hb, hml, hown, hts, hK, hN⟩ := X
  intro pc q ls st g σ k n a b1 hd hq h1 h2 h3 kk H locs l0 hW hS hl
  subst hq
  refine lv_irem hx hb hd (iv_ne0 h2 h3) ?_
  rw [← iv_rem h1 h2]
  exact kk H locs l0 hW hS hl
theorem so_lrem (X : pX p s m args c D cy y cc nL) : ru_lrem cc (pS p l e R s m args below meth c D cy B b nL Qf) := by
  obtain ⟨hx, hb, hml, hown, hts, hK, hN⟩ := X
  intro pc q ls st g σ k n a b1 hd hq h1 h2 h3 kk H locs l0 hW hS hl
  subst hq
  refine lv_lrem hx hb hd (fun q => h3 ((jv_eq h2 ⟨by decide, by decide⟩).mp (q.trans (show (0 : Int64) = jv 0 from rfl)))) ?_
  rw [← jv_rem h1 h2]
  exact kk H locs l0 hW hS hl
theorem so_ishl (X : pX p s m args c D cy y cc nL) : ru_ishl cc (pS p l e R s m args below meth c D cy B b nL Qf) := by
  obtain ⟨hx, hb, hml, hown, hts, hK, hN⟩ := X
  intro pc q ls st g σ k n a b1 hd hq h1 h2 h3 h4 kk H locs l0 hW hS hl
  subst hq
  refine lv_ishl hx hb hd ?_
  rw [iv_shl h1 h2 h3 h4]
  exact kk H locs l0 hW hS hl
theorem so_ishr (X : pX p s m args c D cy y cc nL) : ru_ishr cc (pS p l e R s m args below meth c D cy B b nL Qf) := by
  obtain ⟨hx, hb, hml, hown, hts, hK, hN⟩ := X
  intro pc q ls st g σ k n a b1 hd hq h1 h2 h3 h4 kk H locs l0 hW hS hl
  subst hq
  refine lv_ishr hx hb hd ?_
  rw [iv_shr h1 h2 h3 h4]
  exact kk H locs l0 hW hS hl
theorem so_iushr (X : pX p s m args c D cy y cc nL) : ru_iushr cc (pS p l e R s m args below meth c D cy B b nL Qf) := by
  obtain ⟨hx, hb, hml, hown, hts, hK, hN⟩ := X
  intro pc q ls st g σ k n a b1 hd hq h1 h2 h3 h4 kk H locs l0 hW hS hl
  subst hq
  exact lv_iushr hx hb hd (iv_ushr h1 h2 h3 h4) (kk H locs l0 hW hS hl)
theorem so_ior (X : pX p s m args c D cy y cc nL) : ru_ior cc (pS p l e R s m args below meth c D cy B b nL Qf) := by
  obtain ⟨hx, hb, hml, hown, hts, hK, hN⟩ := X
  intro pc q ls st g σ k n a b1 hd hq h1 h2 kk H locs l0 hW hS hl
  subst hq
  refine lv_ior hx hb hd ?_
  rw [iv_or h1 h2]
  exact kk H locs l0 hW hS hl
theorem so_iand (X : pX p s m args c D cy y cc nL) : ru_iand cc (pS p l e R s m args below meth c D cy B b nL Qf) := by
  obtain ⟨hx, hb, hml, hown, hts, hK, hN⟩ := X
  intro pc q ls st g σ k n a b1 hd hq h1 h2 kk H locs l0 hW hS hl
  subst hq
  refine lv_iand hx hb hd ?_
  rw [iv_and h1 h2]
  exact kk H locs l0 hW hS hl
theorem so_iand31 (X : pX p s m args c D cy y cc nL) : ru_iand31 cc (pS p l e R s m args below meth c D cy B b nL Qf) := by
  obtain ⟨hx, hb, hml, hown, hts, hK, hN⟩ := X
  intro pc q ls st g σ k n a hd hq kk H locs l0 hW hS hl
  subst hq
  refine lv_iand hx hb hd ?_
  rw [iv_and31]
  exact kk H locs l0 hW hS hl
theorem so_land (X : pX p s m args c D cy y cc nL) : ru_land cc (pS p l e R s m args below meth c D cy B b nL Qf) := by
  obtain ⟨hx, hb, hml, hown, hts, hK, hN⟩ := X
  intro pc q ls st g σ k n a b1 hd hq h1 h2 kk H locs l0 hW hS hl
  subst hq
  refine lv_land hx hb hd ?_
  rw [jv_and h1 h2]
  exact kk H locs l0 hW hS hl
theorem so_i2l (X : pX p s m args c D cy y cc nL) : ru_i2l cc (pS p l e R s m args below meth c D cy B b nL Qf) := by
  obtain ⟨hx, hb, hml, hown, hts, hK, hN⟩ := X
  intro pc q ls st g σ k n a hd hq h1 kk H locs l0 hW hS hl
  subst hq
  exact lv_i2l hx hb hd (iv_toJ h1) (kk H locs l0 hW hS hl)
theorem so_l2i (X : pX p s m args c D cy y cc nL) : ru_l2i cc (pS p l e R s m args below meth c D cy B b nL Qf) := by
  obtain ⟨hx, hb, hml, hown, hts, hK, hN⟩ := X
  intro pc q ls st g σ k n a hd hq h1 kk H locs l0 hW hS hl
  subst hq
  exact lv_l2i hx hb hd (jv_toI h1) (kk H locs l0 hW hS hl)
theorem so_lcmp (X : pX p s m args c D cy y cc nL) : ru_lcmp cc (pS p l e R s m args below meth c D cy B b nL Qf) := by
  obtain ⟨hx, hb, hml, hown, hts, hK, hN⟩ := X
  intro pc q ls st g σ k n a b1 hd hq h1 h2 kk H locs l0 hW hS hl
  subst hq
  refine W.lcmp hx hb hd ?_
  rw [jv_cmp h1 h2]
  exact kk H locs l0 hW hS hl
theorem so_goto (X : pX p s m args c D cy y cc nL) : ru_goto cc (pS p l e R s m args below meth c D cy B b nL Qf) := by
  obtain ⟨hx, hb, hml, hown, hts, hK, hN⟩ := X
  intro pc q ls st g σ k n off hd ht kk H locs l0 hW hS hl
  exact lv_goto hx hb hd ht (kk H locs l0 hW hS hl)
theorem so_icmp (X : pX p s m args c D cy y cc nL) : ru_icmp cc (pS p l e R s m args below meth c D cy B b nL Qf) := by
  obtain ⟨hx, hb, hml, hown, hts, hK, hN⟩ := X
  intro pc q ls st g σ k n t off c1 a b1 hd hq ht h1 h2 kt kf H locs l0 hW hS hl
  subst hq
  cases c1 with
  | eq => exact lv_icmp_eq hx hb hd ht (fun h => kt ((iv_eq h1 h2).mp h) H locs l0 hW hS hl) (fun h => kf (fun z => h ((iv_eq h1 h2).mpr z)) H locs l0 hW hS hl)
  | ne => exact lv_icmp_ne hx hb hd ht (fun h => kt (fun z => h ((iv_eq h1 h2).mpr z)) H locs l0 hW hS hl) (fun h => kf (fun z => z ((iv_eq h1 h2).mp h)) H locs l0 hW hS hl)
  | lt => exact lv_icmp_lt hx hb hd ht (fun h => kt ((iv_lt h1 h2).mp h) H locs l0 hW hS hl) (fun h => kf (fun z => h ((iv_lt h1 h2).mpr z)) H locs l0 hW hS hl)
  | ge => exact lv_icmp_ge hx hb hd ht (fun h => kt ((iv_le h2 h1).mp h) H locs l0 hW hS hl) (fun h => kf (fun z => h ((iv_le h2 h1).mpr z)) H locs l0 hW hS hl)
  | gt => exact lv_icmp_gt hx hb hd ht (fun h => kt ((iv_lt h2 h1).mp h) H locs l0 hW hS hl) (fun h => kf (fun z => h ((iv_lt h2 h1).mpr z)) H locs l0 hW hS hl)
  | le => exact lv_icmp_le hx hb hd ht (fun h => kt ((iv_le h1 h2).mp h) H locs l0 hW hS hl) (fun h => kf (fun z => h ((iv_le h1 h2).mpr z)) H locs l0 hW hS hl)
theorem so_ifc (X : pX p s m args c D cy y cc nL) : ru_ifc cc (pS p l e R s m args below meth c D cy B b nL Qf) := by
  obtain ⟨hx, hb, hml, hown, hts, hK, hN⟩ := X
  intro pc q ls st g σ k n t off c1 a hd hq ht h1 kt kf H locs l0 hW hS hl
  subst hq
  have h0 : iR 0 := ⟨by decide, by decide⟩
  cases c1 with
  | eq => exact lv_if_eq hx hb hd ht (fun h => kt ((iv_eq h1 h0).mp h) H locs l0 hW hS hl) (fun h => kf (fun z => h ((iv_eq h1 h0).mpr z)) H locs l0 hW hS hl)
  | ne => exact lv_if_ne hx hb hd ht (fun h => kt (fun z => h ((iv_eq h1 h0).mpr z)) H locs l0 hW hS hl) (fun h => kf (fun z => z ((iv_eq h1 h0).mp h)) H locs l0 hW hS hl)
  | lt => exact lv_if_lt hx hb hd ht (fun h => kt ((iv_lt h1 h0).mp h) H locs l0 hW hS hl) (fun h => kf (fun z => h ((iv_lt h1 h0).mpr z)) H locs l0 hW hS hl)
  | ge => exact lv_if_ge hx hb hd ht (fun h => kt ((iv_le h0 h1).mp h) H locs l0 hW hS hl) (fun h => kf (fun z => h ((iv_le h0 h1).mpr z)) H locs l0 hW hS hl)
  | gt => exact lv_if_gt hx hb hd ht (fun h => kt ((iv_lt h0 h1).mp h) H locs l0 hW hS hl) (fun h => kf (fun z => h ((iv_lt h0 h1).mpr z)) H locs l0 hW hS hl)
  | le => exact lv_if_le hx hb hd ht (fun h => kt ((iv_le h1 h0).mp h) H locs l0 hW hS hl) (fun h => kf (fun z => h ((iv_le h1 h0).mpr z)) H locs l0 hW hS hl)
theorem so_ifnn (X : pX p s m args c D cy y cc nL) : ru_ifnn cc (pS p l e R s m args below meth c D cy B b nL Qf) := by
  obtain ⟨hx, hb, hml, hown, hts, hK, hN⟩ := X
  intro pc q ls st g σ k n t off r hd hq ht kt kf H locs l0 hW hS hl
  subst hq
  cases r with
  | none => exact lv_ifnonnullN hx hb hd (kf rfl H locs l0 hW hS hl)
  | some o => exact lv_ifnonnull hx hb hd ht (kt (fun h => by cases h) H locs l0 hW hS hl)
theorem so_tsw (X : pX p s m args c D cy y cc nL) : ru_tsw cc (pS p l e R s m args below meth c D cy B b nL Qf) := by
  obtain ⟨hx, hb, hml, hown, hts, hK, hN⟩ := X
  intro pc q ls st g σ k n dflt lo hi offs len t a hd h1 ht kt kf H locs l0 hW hS hl
  by_cases h : a < lo ∨ hi < a
  · exact lv_tableOut hx hb hd (by rw [iv_toInt h1]; exact h) ht (kt h H locs l0 hW hS hl)
  · obtain ⟨off, u, e1, e2, kk⟩ := kf h
    exact lv_tableIn hx hb hd (by rw [iv_toInt h1]; omega) (by rw [iv_toInt h1]; omega) (by rw [iv_toInt h1]; exact e1) e2 (kk H locs l0 hW hS hl)
theorem so_lsw (X : pX p s m args c D cy y cc nL) : ru_lsw cc (pS p l e R s m args below meth c D cy B b nL Qf) := by
  obtain ⟨hx, hb, hml, hown, hts, hK, hN⟩ := X
  intro pc q ls st g σ k n dflt ps len a off hd h1 hp ho ht kk H locs l0 hW hS hl
  exact lv_lookup hx hb hd hp (by rw [iv_toInt h1]; exact ho) ht (kk H locs l0 hW hS hl)
theorem so_sub : ru_sub (pS p l e R s m args below meth c D cy B b nL Qf) := by
  intro pc q ls st g σ k n ls2 h kk H locs l0 hW hS hl
  refine kk H locs l0 hW hS ⟨hl.1, hl.2.1, fun z hz => ?_⟩
  obtain ⟨r, hr, rfl⟩ := List.mem_map.mp hz
  exact hl.2.2 _ (List.mem_map.mpr ⟨r, h r hr, rfl⟩)
end SO
end
section
/-! The rules are sound, two: cells -/
theorem pIn0 : ∀ w ∈ u_ws RX0 TX0 3, w ∈ lw_ok := by decide +kernel
theorem pIn1 : ∀ w ∈ u_ws RX1 TX1 3, w ∈ lw_ok := by decide +kernel
theorem pIn2 : ∀ w ∈ u_ws RX2 TX2 3, w ∈ lw_ok := by decide +kernel
theorem pIn3 : ∀ w ∈ u_ws RX3 TX3 18, w ∈ lw_ok := by decide +kernel
theorem pIn4 : ∀ w ∈ u_ws RX4 TX4 13, w ∈ lw_ok := by decide +kernel
theorem pIn5 : ∀ w ∈ u_ws RX5 TX5 9, w ∈ lw_ok := by decide +kernel
theorem pIn6 : ∀ w ∈ u_ws RX6 TX6 14, w ∈ lw_ok := by decide +kernel
def pTf (ci : Nat) : Nat → FieldType := match ci with
  | 0 => tyX0 | 1 => tyX1 | 2 => tyX2 | 3 => tyX3 | 4 => tyX4 | 5 => tyX5 | _ => tyX6
/-- what the tables say of a class of ours -/
def pCf (ci : Nat) (C : String) (T : u_T) (N : Nat) : Prop := (∀ w ∈ u_ws C T N, w ∈ lw_ok) ∧ (∀ k, k < N → parseFieldDescriptor (T k).2.2.1 = some (pTf ci k)) ∧ (∀ a, a < N → ∀ b, b < N → a ≠ b → (T a).2.1 ≠ (T b).2.1)
theorem pCls {ci : Nat} {C : String} {T : u_T} {N : Nat} (hc : vwCl[ci]? = some (C, T, N)) : pCf ci C T N := by
  match ci, hc with
  | 0, hc => cases hc; exact ⟨pIn0, tyX0_ok, nmX0⟩
  | 1, hc => cases hc; exact ⟨pIn1, tyX1_ok, nmX1⟩
  | 2, hc => cases hc; exact ⟨pIn2, tyX2_ok, nmX2⟩
  | 3, hc => cases hc; exact ⟨pIn3, tyX3_ok, nmX3⟩
  | 4, hc => cases hc; exact ⟨pIn4, tyX4_ok, nmX4⟩
  | 5, hc => cases hc; exact ⟨pIn5, tyX5_ok, nmX5⟩
  | 6, hc => cases hc; exact ⟨pIn6, tyX6_ok, nmX6⟩
  | k + 7, hc => simp [vwCl] at hc
/-- the kinds of fields, by their types -/
def pKf (t : FieldType) (r z : Bool) : Bool := match t with
  | .int => !r && !z
  | .boolean => !r && z
  | .object _ => r
  | .array _ => r
  | _ => false
theorem pKf_ok : ∀ ci, ci < 7 → ∀ f, f < pN ci → pKf (pTf ci f) (pF ci f) (pZ ci f) = true := by decide +kernel
theorem pN_ok {ci : Nat} {C : String} {T : u_T} {N : Nat} (hc : vwCl[ci]? = some (C, T, N)) : N = pN ci ∧ ci < 7 := by
  match ci, hc with
  | 0, hc => cases hc; exact ⟨rfl, by decide⟩
  | 1, hc => cases hc; exact ⟨rfl, by decide⟩
  | 2, hc => cases hc; exact ⟨rfl, by decide⟩
  | 3, hc => cases hc; exact ⟨rfl, by decide⟩
  | 4, hc => cases hc; exact ⟨rfl, by decide⟩
  | 5, hc => cases hc; exact ⟨rfl, by decide⟩
  | 6, hc => cases hc; exact ⟨rfl, by decide⟩
  | k + 7, hc => simp [vwCl] at hc
theorem pFit {ci f : Nat} (h7 : ci < 7) (hf : f < pN ci) {z : Int} (hr : pF ci f = false) (hz : pZ ci f = true → z = 0 ∨ z = 1) : narrow (pTf ci f) (.int (iv z)) = .int (iv z) ∧ fits (pTf ci f) (.int (iv z)) = true := by
  have h := pKf_ok ci h7 f hf
  cases ht : pTf ci f <;> rw [ht] at h <;> simp [pKf, hr] at h
  · exact ⟨rfl, rfl⟩
  · rcases hz h with rfl | rfl <;> exact ⟨rfl, rfl⟩
theorem pFitR {ci f : Nat} (h7 : ci < 7) (hf : f < pN ci) (B b : Nat) (r : Option Nat) (hr : pF ci f = true) : narrow (pTf ci f) (tV B b (vR r)) = tV B b (vR r) ∧ fits (pTf ci f) (tV B b (vR r)) = true := by
  have h := pKf_ok ci h7 f hf
  cases ht : pTf ci f <;> rw [ht] at h <;> simp [pKf, hr] at h <;> cases r <;> exact ⟨rfl, rfl⟩
theorem pDef {ci f : Nat} (h7 : ci < 7) (hf : f < pN ci) (B b : Nat) : defaultValue (pTf ci f) = tV B b (if pF ci f = true then vR none else vI 0) := by
  have h := pKf_ok ci h7 f hf
  cases ht : pTf ci f <;> rw [ht] at h <;> cases hr : pF ci f <;> simp [pKf, hr] at h <;> rfl
theorem tA_pos {B b o : Nat} (h : 0 < o) : tA B b o = B + (o - 1) := by
  cases o with
  | zero => omega
  | succ o => rfl
theorem tA_ne {B b o a : Nat} (ho : 0 < o) (ha : 0 < a) (h : a ≠ o) : tA B b a ≠ tA B b o := by
  rw [tA_pos ho, tA_pos ha]; omega
section S2
variable {p : Program} {l : Launch} {e : Env} {R : Room} {s : State} {m : MethodId} {args : Array Value} {below : List Frame} {meth : Method} {c : Code} {D : va_G} {cy : Nat → ClassId} {B b : Nat} {Qf : State → Prop} {y : MethodName} {cc : ByteArray} {nL bc bs : Nat}
theorem pAt_kept {g g2 : pG} {σ σ2 : pM} {o : Nat} {H H2 : Heap} (h : pAt D cy B b g σ o H) (hk : g2.2.1 o = g.2.1 o) (hr : g2.2.2 o = g.2.2 o) (hs : σ2 o = σ o) (hq : H2[tA B b o]? = H[tA B b o]?) : pAt D cy B b g2 σ2 o H2 := by
  unfold pAt pFV at h ⊢
  rw [hk, hr, hs]
  exact ⟨fun h7 => (h.1 h7).kept hq, fun h7 => ⟨(h.2 h7).1, hq.trans (h.2 h7).2⟩⟩
theorem pW_lt {g : pG} {σ : pM} {H : Heap} (hW : pW D cy B b s g σ H) {o : Nat} (h0 : 0 < o) (ho : o < g.1) : tA B b o < H.size := by
  rw [tA_pos h0]
  have := hW.1
  omega
theorem pW_pos {g : pG} {σ : pM} {H : Heap} (hW : pW D cy B b s g σ H) {o : Nat} (hk : (g.2.1 o).1 ≠ 11) : 0 < o := by
  rcases Nat.eq_zero_or_pos o with h | h
  · rw [h] at hk; exact absurd hW.2.2.1 hk
  · exact h
/-- one cell is written -/
theorem pW_set {g g2 : pG} {σ σ2 : pM} {H H2 : Heap} {o : Nat} (hW : pW D cy B b s g σ H) (h0 : 0 < o) (z : H2.size = H.size) (oq : ∀ q, q ≠ tA B b o → H2[q]? = H[q]?) (hn : g2.1 = g.1) (hk : g2.2.1 = g.2.1) (hs : ∀ a, a ≠ o → σ2 a = σ a) (hr : ∀ a, a ≠ o → g2.2.2 a = g.2.2 a) (he : pAt D cy B b g2 σ2 o H2) : pW D cy B b s g2 σ2 H2 := by
  obtain ⟨w1, w2, w3, w4, w5, w6⟩ := hW
  refine ⟨by rw [z, hn]; exact w1, w2, by rw [hk]; exact w3, by rw [hn]; exact w4, ?_, fun a a0 ha => ?_⟩
  · rw [hk, hs 0 (by omega)]
    exact w5.kept (oq b (by rw [tA_pos h0]; omega))
  · by_cases h : a = o
    · rw [h]; exact he
    · exact pAt_kept (w6 a a0 (by rw [← hn]; exact ha)) (by rw [hk]) (hr a h) (hs a h) (oq _ (tA_ne h0 a0 h))
theorem up2_ne {α : Type} {f : Nat → Nat → α} {o k a : Nat} {v : α} (h : a ≠ o) : up2 f o k v a = f a := by
  funext j
  simp [up2, h]
theorem up1_ne {α : Type} {f : Nat → α} {o a : Nat} {v : α} (h : a ≠ o) : up1 f o v a = f a := by
  simp [up1, h]
theorem up1_eq {α : Type} {f : Nat → α} {o : Nat} {v : α} : up1 f o v o = v := by
  simp [up1]
theorem so_getf (X : pX p s m args c D cy y cc nL) : ru_getf y cc (pS p l e R s m args below meth c D cy B b nL Qf) := by
  obtain ⟨hx, hb, hml, hown, hts, hK, hNs⟩ := X
  intro pc q ls st g σ k n i o ci f hd hq ho hk h7 hfl kk H locs l0 hW hS hl
  subst hq
  obtain ⟨C, T, hc, hf, hC, hlink⟩ := hfl
  have h0 := pW_pos hW (o := o) (by omega)
  have hA := (hW.2.2.2.2.2 o h0 ho).1 (by rw [hk]; exact h7)
  rw [hk] at hA
  obtain ⟨cell, q1, q2, q3, q4⟩ := hA
  obtain ⟨hSl, hfc, kC, hkC, hkind⟩ := hK.1 ci _ hc
  obtain ⟨cf, kf, fi, fd, hi, hsl⟩ := hSl f hf
  exact W.getf hx hb hown (hts _ hlink) (by have := hi; rw [hC] at this; exact this) (u_facts hfc hkC (u_lays hts (pCls hc).1 hf) hi).1 q1 (by rw [q3]; exact fun h => by cases h) (v := tV B b (pFV g σ o ci f)) (by rw [hsl]; exact q4 f hf) rfl rfl hd (kk H locs l0 hW hS hl)
theorem so_putf (X : pX p s m args c D cy y cc nL) : ru_putf y cc (pS p l e R s m args below meth c D cy B b nL Qf) := by
  obtain ⟨hx, hb, hml, hown, hts, hK, hNs⟩ := X
  intro pc q ls st g σ k n i o ci f z hd hq ho hk h7 hfl hr hfin hz kk H locs l0 hW hS hl
  subst hq
  obtain ⟨C, T, hc, hf, hC, hlink⟩ := hfl
  obtain ⟨hin, hty, hnm⟩ := pCls hc
  have h0 := pW_pos hW (o := o) (by omega)
  have hA := (hW.2.2.2.2.2 o h0 ho).1 (by rw [hk]; exact h7)
  rw [hk] at hA
  obtain ⟨cell, q1, q2, q3, q4⟩ := hA
  have hap := va_apart (own := y.cls) hts hin (pTf ci) hty hnm hK hc
  obtain ⟨hSl, hfc, kC, hkC, hkind⟩ := hK.1 ci _ hc
  obtain ⟨cf, kf, fi, fd, hi, hsl⟩ := hSl f hf
  have hlay := hts _ (hin _ (u_in_lay hf))
  have hfin2 : (T f).2.2.2 = false := by simpa [pFin, hc] using hfin
  unfold u_lay at hlay
  rw [if_neg (by rw [hfin2]; decide)] at hlay
  have hst := (u_facts hfc hkC (u_lays hts hin hf) hi).1
  obtain ⟨hn1, hn2⟩ := pFit h7 hf hr hz
  have h6 := u_store hfc hkC hkind hlay hi (hty f hf) hn1 hn2
  refine W.putK hx hb (f := fd) ⟨hown, hts _ hlink, ⟨_, _, _, by have := hi; rw [hC] at this; exact this⟩, hst⟩ (by rw [q2]; exact h6) q1 q3 (by rw [hsl]; exact k2_hasslot (q4 f hf)) rfl rfl hd fun H2 e1 e2 e3 => ?_
  rw [hsl] at e1
  refine kk H2 _ l0 (pW_set hW h0 e2 e3 rfl rfl (fun a ha => up2_ne ha) (fun a _ => rfl) ⟨fun _ => ?_, fun h => absurd (by rw [hk]; exact h7) h⟩) (hS.put e2 e3 (by show B ≤ tA B b o; rw [tA_pos h0]; omega)) hl
  rw [hk]
  refine t_OB.to (V := updV (fun j => tV B b (pFV g σ o ci j)) f (.int (iv z))) ⟨_, e1, q2, q3, t_set q4 hap hf _⟩ (fun j _ => ?_)
  by_cases hj : j = f
  · subst hj
    simp [updV, pFV, hr, up2, tV]
  · simp [updV, pFV, up2, hj]
theorem so_putr (X : pX p s m args c D cy y cc nL) (hin2 : y.name = "<init>" → meth.name = y.name) : ru_putr y cc (pS p l e R s m args below meth c D cy B b nL Qf) := by
  obtain ⟨hx, hb, hml, hown, hts, hK, hNs⟩ := X
  intro pc q ls st g σ k n i o ci f r hd hq ho hk h7 hfl hr hfin hyn hycl kk H locs l0 hW hS hl
  subst hq
  obtain ⟨C, T, hc, hf, hC, hlink⟩ := hfl
  obtain ⟨hin, hty, hnm⟩ := pCls hc
  have h0 := pW_pos hW (o := o) (by omega)
  have hA := (hW.2.2.2.2.2 o h0 ho).1 (by rw [hk]; exact h7)
  rw [hk] at hA
  obtain ⟨cell, q1, q2, q3, q4⟩ := hA
  have hap := va_apart (own := y.cls) hts hin (pTf ci) hty hnm hK hc
  obtain ⟨hSl, hfc, kC, hkC, hkind⟩ := hK.1 ci _ hc
  obtain ⟨cf, kf, fi, fd, hi, hsl⟩ := hSl f hf
  have hlay := hts _ (hin _ (u_in_lay hf))
  have hfin2 : (T f).2.2.2 = true := by simpa [pFin, hc] using hfin
  have hCy : C = y.cls := by rw [hc] at hycl; simpa using hycl
  unfold u_lay at hlay
  rw [if_pos hfin2] at hlay
  have hst := (u_facts hfc hkC (u_lays hts hin hf) hi).1
  have hcf : m.cls = cf := by
    obtain ⟨_, _, c2, _, _, _, -, -, hf2, -, -, -, hown2, -⟩ := Cond.laysFinal_spec hlay
    have e1 : c2 = cf := by have := hi.symm.trans hf2; simp at this; exact this.1.symm
    rw [hC, hCy] at hown2
    rw [← e1]; exact Option.some.inj (hown.symm.trans hown2)
  obtain ⟨hn1, hn2⟩ := pFitR h7 hf B b r hr
  have h6 := u_fits hfc hkC hkind (Or.inr hlay) hi (hty f hf) hn1 hn2
  refine W.putFinK hx hb hown (hts _ hlink) (by have := hi; rw [hC] at this; exact this) hst hcf ((hin2 hyn).trans hyn) (by rw [q2]; exact h6) q1 q3 (by rw [hsl]; exact k2_hasslot (q4 f hf)) rfl rfl hd fun H2 e1 e2 e3 => ?_
  rw [hsl] at e1
  refine kk H2 _ l0 (pW_set (g2 := (g.1, g.2.1, up2 g.2.2 o f r)) hW h0 e2 e3 rfl rfl (fun a _ => rfl) (fun a ha => up2_ne ha) ⟨fun _ => ?_, fun h => absurd (by show (g.2.1 o).1 < 7; rw [hk]; exact h7) h⟩) (hS.put e2 e3 (by show B ≤ tA B b o; rw [tA_pos h0]; omega)) hl
  show t_OB _ (D.1 (g.2.1 o).1) (pN (g.2.1 o).1) (D.2 (g.2.1 o).1) H2 _
  rw [hk]
  refine t_OB.to (V := updV (fun j => tV B b (pFV g σ o ci j)) f (tV B b (vR r))) ⟨_, e1, q2, q3, t_set q4 hap hf _⟩ (fun j _ => ?_)
  by_cases hj : j = f
  · subst hj
    simp [updV, pFV, hr, up2]
  · simp [updV, pFV, up2, hj]
/-- an array of ours, of numbers -/
theorem pW_num {g : pG} {σ : pM} {H : Heap} {o kd : Nat} (hW : pW D cy B b s g σ H) (ho : o < g.1) (hk : (g.2.1 o).1 = kd) (h : kd = 7 ∨ kd = 8) : 0 < o ∧ H[tA B b o]? = some (arrV (cy kd) (g.2.1 o).2 (fun j => .int (iv (σ o j)))) := by
  have h0 := pW_pos hW (o := o) (by omega)
  have hA := ((hW.2.2.2.2.2 o h0 ho).2 (by omega)).2
  rw [hk] at hA
  refine ⟨h0, hA.trans ?_⟩
  congr 2
  funext j
  rw [if_pos (by omega)]
  rfl
theorem pW_ref {g : pG} {σ : pM} {H : Heap} {o kd : Nat} (hW : pW D cy B b s g σ H) (ho : o < g.1) (hk : (g.2.1 o).1 = kd) (h : kd = 9 ∨ kd = 10) : 0 < o ∧ H[tA B b o]? = some (arrV (cy kd) (g.2.1 o).2 (fun j => tV B b (vR (g.2.2 o j)))) := by
  have h0 := pW_pos hW (o := o) (by omega)
  have hA := ((hW.2.2.2.2.2 o h0 ho).2 (by omega)).2
  rw [hk] at hA
  refine ⟨h0, hA.trans ?_⟩
  congr 2
  funext j
  rw [if_neg (by omega)]
theorem so_iald (X : pX p s m args c D cy y cc nL) : ru_iald cc (pS p l e R s m args below meth c D cy B b nL Qf) := by
  obtain ⟨hx, hb, hml, hown, hts, hK, hNs⟩ := X
  intro pc q ls st g σ k n o j hd hq ho hk h1 h2 h3 kk H locs l0 hW hS hl
  subst hq
  have hR : iR j := ⟨by omega, by omega⟩
  have hin := iv_in h1 h2 h3
  have hcl := iv_clamp hR
  rcases hk with hk | hk
  · obtain ⟨h0, hA⟩ := pW_num hW ho hk (Or.inl rfl)
    exact W.iald (v := .int (iv (σ o j.toNat))) hx hb hA ((hK.2 0 _ rfl).1 _ _) (fun q => by cases q) (by show ¬ (iv j < 0 ∨ (arrV _ _ _).slots.size ≤ _); rw [arrV_size]; exact hin) (by rw [hcl]; exact arrV_read _ _ (by omega)) rfl rfl hd (kk H locs l0 hW hS hl)
  · have ho0 : o = 0 := by
      rcases Nat.eq_zero_or_pos o with h | h
      · exact h
      · have := ((hW.2.2.2.2.2 o h ho).2 (by omega)).1; omega
    subst ho0
    obtain ⟨scr, x1, x2, x3, x4, x5⟩ := hW.2.2.2.2.1
    exact W.iald (v := .int (iv (σ 0 j.toNat))) hx hb x1 x2 x3 (by rw [x4]; exact hin) (by rw [hcl]; exact x5 _ (by omega)) rfl rfl hd (kk H locs l0 hW hS hl)
theorem so_zald (X : pX p s m args c D cy y cc nL) : ru_zald cc (pS p l e R s m args below meth c D cy B b nL Qf) := by
  obtain ⟨hx, hb, hml, hown, hts, hK, hNs⟩ := X
  intro pc q ls st g σ k n o j hd hq ho hk h1 h2 h3 kk H locs l0 hW hS hl
  subst hq
  have hR : iR j := ⟨by omega, by omega⟩
  have hin := iv_in h1 h2 h3
  have hcl := iv_clamp hR
  obtain ⟨h0, hA⟩ := pW_num hW ho hk (Or.inr rfl)
  exact W.zald (v := .int (iv (σ o j.toNat))) hx hb hA ((hK.2 1 _ rfl).1 _ _) (fun q => by cases q) (by show ¬ (iv j < 0 ∨ (arrV _ _ _).slots.size ≤ _); rw [arrV_size]; exact hin) (by rw [hcl]; exact arrV_read _ _ (by omega)) rfl rfl hd (kk H locs l0 hW hS hl)
theorem so_aald (X : pX p s m args c D cy y cc nL) : ru_aald cc (pS p l e R s m args below meth c D cy B b nL Qf) := by
  obtain ⟨hx, hb, hml, hown, hts, hK, hNs⟩ := X
  intro pc q ls st g σ k n o j hd hq ho hk h1 h2 h3 kk H locs l0 hW hS hl
  subst hq
  have hR : iR j := ⟨by omega, by omega⟩
  have hin := iv_in h1 h2 h3
  have hcl := iv_clamp hR
  rcases hk with hk | hk
  · obtain ⟨h0, hA⟩ := pW_ref hW ho hk (Or.inl rfl)
    exact W.aald (v := tV B b (vR (g.2.2 o j.toNat))) (ty := .object "PourPlan$Image") hx hb hA ((hK.2 2 _ rfl).1 _ _) rfl (fun q => by cases q) (by show ¬ (iv j < 0 ∨ (arrV _ _ _).slots.size ≤ _); rw [arrV_size]; exact hin) (by rw [hcl]; exact arrV_read _ _ (by omega)) rfl rfl hd (kk H locs l0 hW hS hl)
  · obtain ⟨h0, hA⟩ := pW_ref hW ho hk (Or.inr rfl)
    exact W.aald (v := tV B b (vR (g.2.2 o j.toNat))) (ty := .object "PourPlan$Wall") hx hb hA ((hK.2 3 _ rfl).1 _ _) rfl (fun q => by cases q) (by show ¬ (iv j < 0 ∨ (arrV _ _ _).slots.size ≤ _); rw [arrV_size]; exact hin) (by rw [hcl]; exact arrV_read _ _ (by omega)) rfl rfl hd (kk H locs l0 hW hS hl)
theorem so_alen (X : pX p s m args c D cy y cc nL) : ru_alen cc (pS p l e R s m args below meth c D cy B b nL Qf) := by
  obtain ⟨hx, hb, hml, hown, hts, hK, hNs⟩ := X
  intro pc q ls st g σ k n o hd hq ho hk kk H locs l0 hW hS hl
  subst hq
  have hlen : ∀ N : Nat, Int32.ofNat N = iv (N : Int) := fun N => (iv_nat N).symm
  rcases hk with hk | hk | hk | hk | hk
  · obtain ⟨h0, hA⟩ := pW_num hW ho hk (Or.inl rfl)
    exact W.alen (n := iv ((g.2.1 o).2 : Int)) hx hb hA ((hK.2 0 _ rfl).1 _ _) (by rw [arrV_size]; exact hlen _) rfl rfl hd (kk H locs l0 hW hS hl)
  · obtain ⟨h0, hA⟩ := pW_num hW ho hk (Or.inr rfl)
    exact W.alen (n := iv ((g.2.1 o).2 : Int)) hx hb hA ((hK.2 1 _ rfl).1 _ _) (by rw [arrV_size]; exact hlen _) rfl rfl hd (kk H locs l0 hW hS hl)
  · obtain ⟨h0, hA⟩ := pW_ref hW ho hk (Or.inl rfl)
    exact W.alen (n := iv ((g.2.1 o).2 : Int)) hx hb hA ((hK.2 2 _ rfl).1 _ _) (by rw [arrV_size]; exact hlen _) rfl rfl hd (kk H locs l0 hW hS hl)
  · obtain ⟨h0, hA⟩ := pW_ref hW ho hk (Or.inr rfl)
    exact W.alen (n := iv ((g.2.1 o).2 : Int)) hx hb hA ((hK.2 3 _ rfl).1 _ _) (by rw [arrV_size]; exact hlen _) rfl rfl hd (kk H locs l0 hW hS hl)
  · have ho0 : o = 0 := by
      rcases Nat.eq_zero_or_pos o with h | h
      · exact h
      · have := ((hW.2.2.2.2.2 o h ho).2 (by omega)).1; omega
    subst ho0
    obtain ⟨scr, x1, x2, x3, x4, x5⟩ := hW.2.2.2.2.1
    exact W.alen (n := iv ((g.2.1 0).2 : Int)) hx hb x1 x2 (by rw [x4]; exact hlen _) rfl rfl hd (kk H locs l0 hW hS hl)
/-- a store into an array of numbers: the new world -/
theorem pW_stN {g : pG} {σ : pM} {H H2 : Heap} {o kd j : Nat} {z : Int} (hW : pW D cy B b s g σ H) (h0 : 0 < o) (hk : (g.2.1 o).1 = kd) (h : kd = 7 ∨ kd = 8) (e1 : H2[tA B b o]? = some ((arrV (cy kd) (g.2.1 o).2 (fun j => .int (iv (σ o j)))).setSlot j (.int (iv z)))) (e2 : H2.size = H.size) (e3 : ∀ q, q ≠ tA B b o → H2[q]? = H[q]?) : pW D cy B b s g (up2 σ o j z) H2 := by
  refine pW_set hW h0 e2 e3 rfl rfl (fun a ha => up2_ne ha) (fun a _ => rfl) ⟨fun h7 => by omega, fun _ => ⟨by omega, ?_⟩⟩
  rw [e1, hk, arrV_store]
  congr 2
  funext i
  rw [if_pos (by omega)]
  by_cases hi : i = j
  · subst hi
    simp [updV, up2, tV]
  · simp [updV, up2, hi, tV]
theorem so_iast (X : pX p s m args c D cy y cc nL) : ru_iast cc (pS p l e R s m args below meth c D cy B b nL Qf) := by
  obtain ⟨hx, hb, hml, hown, hts, hK, hNs⟩ := X
  intro pc q ls st g σ k n o j z hd hq ho hk h1 h2 h3 kk H locs l0 hW hS hl
  subst hq
  have hR : iR j := ⟨by omega, by omega⟩
  have hin := iv_in h1 h2 h3
  have hcl := iv_clamp hR
  obtain ⟨h0, hA⟩ := pW_num hW ho hk (Or.inl rfl)
  refine W.iast hx hb hA ((hK.2 0 _ rfl).1 _ _) (fun q => by cases q) (by show ¬ (iv j < 0 ∨ (arrV _ _ _).slots.size ≤ _); rw [arrV_size]; exact hin) rfl rfl hd fun H2 e1 e2 e3 => ?_
  rw [hcl] at e1
  exact kk H2 _ l0 (pW_stN hW h0 hk (Or.inl rfl) e1 e2 e3) (hS.put e2 e3 (by show B ≤ tA B b o; rw [tA_pos h0]; omega)) hl
theorem so_zast (X : pX p s m args c D cy y cc nL) : ru_zast cc (pS p l e R s m args below meth c D cy B b nL Qf) := by
  obtain ⟨hx, hb, hml, hown, hts, hK, hNs⟩ := X
  intro pc q ls st g σ k n o j z hd hq ho hk h1 h2 h3 hz kk H locs l0 hW hS hl
  subst hq
  have hR : iR j := ⟨by omega, by omega⟩
  have hin := iv_in h1 h2 h3
  have hcl := iv_clamp hR
  obtain ⟨h0, hA⟩ := pW_num hW ho hk (Or.inr rfl)
  refine W.zast hx hb hA ((hK.2 1 _ rfl).1 _ _) (fun q => by cases q) (by show ¬ (iv j < 0 ∨ (arrV _ _ _).slots.size ≤ _); rw [arrV_size]; exact hin) rfl rfl hd fun H2 e1 e2 e3 => ?_
  rw [hcl, show narrow .boolean (.int (iv z)) = .int (iv z) by rcases hz with rfl | rfl <;> rfl] at e1
  exact kk H2 _ l0 (pW_stN hW h0 hk (Or.inr rfl) e1 e2 e3) (hS.put e2 e3 (by show B ≤ tA B b o; rw [tA_pos h0]; omega)) hl
theorem so_aast (X : pX p s m args c D cy y cc nL) : ru_aast cc (pS p l e R s m args below meth c D cy B b nL Qf) := by
  obtain ⟨hx, hb, hml, hown, hts, hK, hNs⟩ := X
  intro pc q ls st g σ k n o v j hd hq ho hv hk h1 h2 h3 kk H locs l0 hW hS hl
  subst hq
  have hR : iR j := ⟨by omega, by omega⟩
  have hin := iv_in h1 h2 h3
  have hcl := iv_clamp hR
  have fin : ∀ (kd ti ci : Nat) (r : vw_C), (g.2.1 o).1 = kd → (kd = 9 ∨ kd = 10) → (g.2.1 v).1 = ci → ci < 7 → vwCl[ci]? = some r → (pTy cy)[ti]? = some (cy kd, .object r.1) → W p l e R s m args below meth c H locs k n Qf (F0 m pc l0 ((vR (some v) :: vI j :: vR (some o) :: st).map (tV B b))) := by
    intro kd ti ci r hkd hkd2 hci h7 hr ht
    obtain ⟨h0, hA⟩ := pW_ref hW ho hkd hkd2
    have hv0 := pW_pos hW (o := v) (by omega)
    obtain ⟨cellV, g1, g2, g3, -⟩ := (hW.2.2.2.2.2 v hv0 hv).1 (by rw [hci]; exact h7)
    rw [hci] at g2
    have hcls := (hK.1 ci r hr).2
    obtain ⟨kA, comp, k1, k2, k3, -⟩ := (hK.2 ti _ ht).2
    have hcomp : comp = D.1 ci := Option.some.inj (k3.symm.trans hcls.1)
    subst hcomp
    obtain ⟨kC, hkC, -⟩ := hcls.2
    refine W.aast hx hb hA (fun q h => by cases h) (fun h => by cases h) k1 k2 rfl hkC ⟨fun q => hin (Or.inl q), by show _ < (arrV _ _ _).slots.size; rw [arrV_size, hcl]; omega⟩ g1 (fun q h => by rw [g3] at h; cases h) (by rw [g2]; exact hkC) (by rw [g2]; exact va_assign hcls) rfl rfl hd fun H2 e1 e2 e3 => ?_
    rw [hcl] at e1
    refine kk H2 _ l0 (pW_set (g2 := (g.1, g.2.1, up2 g.2.2 o j.toNat (some v))) hW h0 e2 e3 rfl rfl (fun a _ => rfl) (fun a ha => up2_ne ha) ⟨fun h7 => by exact absurd h7 (by show ¬ (g.2.1 o).1 < 7; omega), fun _ => ⟨by show (g.2.1 o).1 ≤ 10; omega, ?_⟩⟩) (hS.put e2 e3 (by show B ≤ tA B b o; rw [tA_pos h0]; omega)) hl
    show H2[tA B b o]? = some (arrV (cy (g.2.1 o).1) (g.2.1 o).2 (fun i => tV B b (if (g.2.1 o).1 < 9 then vI (σ o i) else vR (up2 g.2.2 o j.toNat (some v) o i))))
    rw [e1, hkd, arrV_store]
    congr 2
    funext i
    rw [if_neg (by omega)]
    by_cases hi : i = j.toNat
    · subst hi
      simp [updV, up2, tV, va_rf]
    · simp [updV, up2, hi]
  rcases hk with ⟨hk, hk2⟩ | ⟨hk, hk2⟩
  · exact fin 9 2 2 (RX2, TX2, 3) hk (Or.inl rfl) hk2 (by decide) rfl rfl
  · exact fin 10 3 4 (RX4, TX4, 13) hk (Or.inr rfl) hk2 (by decide) rfl rfl
/-- one cell more -/
theorem pW_push {g : pG} {σ : pM} {H H2 : Heap} {kd : Nat × Nat} (hW : pW D cy B b s g σ H) (z : H2.size = H.size + 1) (oq : ∀ q, q < H.size → H2[q]? = H[q]?) (he : pAt D cy B b (g.1 + 1, up1 g.2.1 g.1 kd, up1 g.2.2 g.1 (fun _ => none)) (up1 σ g.1 (fun _ => 0)) g.1 H2) : pW D cy B b s (g.1 + 1, up1 g.2.1 g.1 kd, up1 g.2.2 g.1 (fun _ => none)) (up1 σ g.1 (fun _ => 0)) H2 := by
  have hlt := fun o => pW_lt hW (o := o)
  obtain ⟨w1, w2, w3, w4, w5, w6⟩ := hW
  refine ⟨by show H2.size + 1 = B + (g.1 + 1); omega, w2, ?_, by show 1 ≤ g.1 + 1; omega, ?_, fun a a0 ha => ?_⟩
  · show (up1 g.2.1 g.1 kd 0).1 = 11
    rw [up1_ne (by omega)]; exact w3
  · show va_X b (up1 g.2.1 g.1 kd 0).2 (fun j => iv (up1 σ g.1 (fun _ => 0) 0 j)) s H2
    rw [up1_ne (by omega), up1_ne (by omega)]
    exact w5.kept (oq b (by omega))
  · by_cases h : a = g.1
    · rw [h]; exact he
    · have ha2 : a < g.1 := by have : a < g.1 + 1 := ha; omega
      exact pAt_kept (w6 a a0 ha2) (up1_ne h) (up1_ne h) (up1_ne h) (oq _ (hlt a a0 ha2))
theorem va_S_push {A : Nat → Prop} {H0 H H2 : Heap} {locs : List Loc} (hS : va_S A H0 H locs) (z : H2.size = H.size + 1) (oq : ∀ q, q < H.size → H2[q]? = H[q]?) : va_S A H0 H2 locs :=
  ⟨Nat.le_trans hS.1 (by omega), fun x h1 h2 => (oq x (Nat.lt_of_lt_of_le h1 hS.1)).trans (hS.2.1 x h1 h2), hS.2.2⟩
theorem pW_nx {g : pG} {σ : pM} {H : Heap} (hW : pW D cy B b s g σ H) : H.size = tA B b g.1 := by
  rw [tA_pos (by have := hW.2.2.2.1; omega)]
  have := hW.1
  have := hW.2.2.2.1
  omega
theorem so_new (X : pX p s m args c D cy y cc nL) (hR : bc ≤ R.cells ∧ bs ≤ R.slots) : ru_new y cc bc bs (pS p l e R s m args below meth c D cy B b nL Qf) := by
  obtain ⟨hx, hb, hml, hown, hts, hK, hNs⟩ := X
  intro pc q ls st g σ k n i ci C T hd hq hc h7 hcl hinst hini h1 h2 kk H locs l0 hW hS hl
  subst hq
  have hKn := hK.1 ci _ hc
  obtain ⟨hin, hty, hnm⟩ := pCls hc
  refine W.newcK hx hb hown (hts _ hcl) (hts _ hinst) (hts _ hini) rfl hd (by omega) (by omega) hKn.2.1 (pW_nx hW) fun H2 kC hkC e1 z1 o1 => ?_
  have hz : H2.size = H.size + 1 := by rw [z1, pW_nx hW]
  have ho : ∀ q, q < H.size → H2[q]? = H[q]? := fun q h => o1 q (by rw [← pW_nx hW]; exact h)
  refine kk H2 locs l0 (pW_push hW hz ho ⟨fun _ => ?_, fun h => absurd (by show (up1 g.2.1 g.1 (ci, 0) g.1).1 < 7; rw [up1_eq]; exact h7) h⟩) (va_S_push hS hz ho) hl
  show t_OB _ (D.1 (up1 g.2.1 g.1 (ci, 0) g.1).1) (pN (up1 g.2.1 g.1 (ci, 0) g.1).1) (D.2 (up1 g.2.1 g.1 (ci, 0) g.1).1) H2 (fun j => tV B b (pFV (g.1 + 1, up1 g.2.1 g.1 (ci, 0), up1 g.2.2 g.1 (fun _ => none)) (up1 σ g.1 (fun _ => 0)) g.1 (up1 g.2.1 g.1 (ci, 0) g.1).1 j))
  rw [up1_eq]
  refine (u_born (pTf ci) hts hin hKn hkC e1 hty).to (fun j hj => ?_)
  rw [pDef h7 hj B b]
  unfold pFV
  show _ = tV B b (if pF ci j = true then vR (up1 g.2.2 g.1 (fun _ => none) g.1 j) else vI (up1 σ g.1 (fun _ => 0) g.1 j))
  rw [up1_eq, up1_eq]
theorem so_newA (X : pX p s m args c D cy y cc nL) (hR : bc ≤ R.cells ∧ bs ≤ R.slots) (at1 : ArrayType) (kd ti : Nat) (hkd : kd = 7 ∨ kd = 8) (hw : Cond.arrayClass (newarray.typeOf at1) ∈ lw_ok) (hti : (pTy cy)[ti]? = some (cy kd, newarray.typeOf at1)) (hdv : defaultValue (newarray.typeOf at1) = .int 0) (hcb : componentBytes (newarray.typeOf at1) ≤ 8) (hra : ∀ cA : ClassId, va_RA s cA (newarray.typeOf at1) → s.vm.findClass ("[" ++ (newarray.typeOf at1).toString) = some cA)
    {pc : Nat} {ls : pL} {st : List pV} {g : pG} {σ : pM} {k n N : Nat} (hd : decode cc pc = .ok (.newarray at1, 2)) (hN : N < 100000) (h1 : k + 1 ≤ bc) (h2 : n + N ≤ bs)
    (kk : pS p l e R s m args below meth c D cy B b nL Qf (pc + 2) ls (vR (some g.1) :: st) (g.1 + 1, up1 g.2.1 g.1 (kd, N), up1 g.2.2 g.1 (fun _ => none)) (up1 σ g.1 (fun _ => 0)) (k + 1) (n + N)) : pS p l e R s m args below meth c D cy B b nL Qf pc ls (vI (N : Int) :: st) g σ k n := by
  obtain ⟨hx, hb, hml, hown, hts, hK, hNs⟩ := X
  intro H locs l0 hW hS hl
  have hRN : iR (N : Int) := ⟨by omega, by omega⟩
  have hn0 : ¬ iv (N : Int) < 0 := fun q => by rw [← iv_0, iv_lt hRN ⟨by decide, by decide⟩] at q; omega
  have hnN : (iv (N : Int)).toNatClampNeg = N := by rw [iv_clamp hRN]; rfl
  refine va_newaK hx hb (hts _ hw) rfl hd rfl hn0 hnN (by have := Nat.mul_le_mul (Nat.le_of_lt hN) hcb; omega) (by omega) (by omega) (pW_nx hW) fun H2 cA e1 z1 o1 hAr hNm => ?_
  have hcA : cA = cy kd := Option.some.inj (hNm.symm.trans (hra _ (hK.2 ti _ hti).2))
  subst hcA
  have hz : H2.size = H.size + 1 := by rw [z1, pW_nx hW]
  have ho : ∀ q, q < H.size → H2[q]? = H[q]? := fun q h => o1 q (by rw [← pW_nx hW]; exact h)
  refine kk H2 locs l0 (pW_push hW hz ho ⟨fun h => absurd h (by show ¬ (up1 g.2.1 g.1 (kd, N) g.1).1 < 7; rw [up1_eq]; show ¬ kd < 7; omega), fun _ => ⟨by show (up1 g.2.1 g.1 (kd, N) g.1).1 ≤ 10; rw [up1_eq]; show kd ≤ 10; omega, ?_⟩⟩) (va_S_push hS hz ho) hl
  show H2[tA B b g.1]? = some (arrV (cy (up1 g.2.1 g.1 (kd, N) g.1).1) (up1 g.2.1 g.1 (kd, N) g.1).2 (fun j => tV B b (if (up1 g.2.1 g.1 (kd, N) g.1).1 < 9 then vI (up1 σ g.1 (fun _ => 0) g.1 j) else vR (up1 g.2.2 g.1 (fun _ => none) g.1 j))))
  rw [up1_eq, up1_eq, up1_eq, e1, hdv]
  congr 2
  funext j
  rw [if_pos (by show kd < 9; omega)]
  rfl
theorem pWi : Cond.arrayClass (newarray.typeOf .int) ∈ lw_ok := by decide +kernel
theorem pWz : Cond.arrayClass (newarray.typeOf .boolean) ∈ lw_ok := by decide +kernel
theorem so_newi (X : pX p s m args c D cy y cc nL) (hR : bc ≤ R.cells ∧ bs ≤ R.slots) : ru_newi cc bc bs (pS p l e R s m args below meth c D cy B b nL Qf) := by
  intro pc q ls st g σ k n N hd hq hN h1 h2 kk
  subst hq
  exact so_newA X hR .int 7 0 (Or.inl rfl) pWi rfl rfl (by decide) (fun _ h => h) hd hN h1 h2 kk
theorem so_newz (X : pX p s m args c D cy y cc nL) (hR : bc ≤ R.cells ∧ bs ≤ R.slots) : ru_newz cc bc bs (pS p l e R s m args below meth c D cy B b nL Qf) := by
  intro pc q ls st g σ k n N hd hq hN h1 h2 kk
  subst hq
  exact so_newA X hR .boolean 8 1 (Or.inr rfl) pWz rfl rfl (by decide) (fun _ h => h) hd hN h1 h2 kk
theorem so_newq (X : pX p s m args c D cy y cc nL) (hR : bc ≤ R.cells ∧ bs ≤ R.slots) : ru_newq y cc bc bs (pS p l e R s m args below meth c D cy B b nL Qf) := by
  obtain ⟨hx, hb, hml, hown, hts, hK, hNs⟩ := X
  intro pc q ls st g σ k n i N kd C hd hq hN hkd hcl h1 h2 kk H locs l0 hW hS hl
  subst hq
  have hRN : iR (N : Int) := ⟨by omega, by omega⟩
  have hn0 : ¬ iv (N : Int) < 0 := fun q => by rw [← iv_0, iv_lt hRN ⟨by decide, by decide⟩] at q; omega
  have hnN : (iv (N : Int)).toNatClampNeg = N := by rw [iv_clamp hRN]; rfl
  have hov : va_AO C s := by rcases hkd with ⟨-, rfl⟩ | ⟨-, rfl⟩; exact hNs.2.1; exact hNs.2.2
  have hcy : s.vm.findClass ("[" ++ (FieldType.object C).toString) = some (cy kd) := by
    rcases hkd with ⟨rfl, rfl⟩ | ⟨rfl, rfl⟩
    · obtain ⟨_, _, -, -, -, h⟩ := (hK.2 2 _ rfl).2; exact h
    · obtain ⟨_, _, -, -, -, h⟩ := (hK.2 3 _ rfl).2; exact h
  have hkd2 : kd = 9 ∨ kd = 10 := by omega
  refine W.anew hx hb hown (hts _ hcl) (va_AO.use hov) rfl hd rfl hn0 (by rw [hnN]; omega) (by omega) (by rw [hnN]; omega) fun cA kA comp f1 f2 f3 f4 => ?_
  rw [hnN]
  have hcA : cA = cy kd := Option.some.inj (f1.symm.trans hcy)
  subst hcA
  generalize hH2 : H.push ({ cls := cy kd, slots := Array.replicate N .null, vm := .none } : Cell) = H2
  have hz : H2.size = H.size + 1 := by rw [← hH2, Array.size_push]
  have e1 : H2[H.size]? = some (arrV (cy kd) N (fun _ => .null)) := by rw [← hH2, Array.getElem?_push_size, ← arrV_new]
  have ho : ∀ q, q < H.size → H2[q]? = H[q]? := fun q h => by rw [← hH2, Array.getElem?_push, if_neg (Nat.ne_of_lt h)]
  rw [pW_nx hW] at e1 ⊢
  refine kk H2 locs l0 (pW_push hW hz ho ⟨fun h => absurd h (by show ¬ (up1 g.2.1 g.1 (kd, N) g.1).1 < 7; rw [up1_eq]; show ¬ kd < 7; omega), fun _ => ⟨by show (up1 g.2.1 g.1 (kd, N) g.1).1 ≤ 10; rw [up1_eq]; show kd ≤ 10; omega, ?_⟩⟩) (va_S_push hS hz ho) hl
  show H2[tA B b g.1]? = some (arrV (cy (up1 g.2.1 g.1 (kd, N) g.1).1) (up1 g.2.1 g.1 (kd, N) g.1).2 (fun j => tV B b (if (up1 g.2.1 g.1 (kd, N) g.1).1 < 9 then vI (up1 σ g.1 (fun _ => 0) g.1 j) else vR (up1 g.2.2 g.1 (fun _ => none) g.1 j))))
  rw [up1_eq, up1_eq, up1_eq, e1]
  congr 2
  funext j
  rw [if_neg (by show ¬ kd < 9; omega)]
  rfl
end S2
end
section
/-! The rules are sound, three: calls, returns, and all of it -/
theorem lw_good {w : Cond} (h : w ∈ lw_ok) : goodWord w = true := (List.mem_filter.mp h).2
/-- the words of a method: its code, and all of the tables' -/
abbrev pWs (z : MethodName) (cc : ByteArray) (nL : Nat) (rt : Option FieldType) : List Cond := Cond.code z cc nL rt :: lw_ok
theorem pGood {x z : MethodName} {c1 c2 : ByteArray} {n1 n2 : Nat} {r1 r2 : Option FieldType} (h : Cond.code z c2 n2 r2 ∈ lw_ok) : GoodIn (pWs x c1 n1 r1) (pWs z c2 n2 r2) := by
  intro w hw
  have h2 : w ∈ lw_ok := by
    rcases List.mem_cons.mp hw with rfl | h3
    · exact h
    · exact h3
  exact ⟨List.mem_cons_of_mem _ h2, good_of_word (lw_good h2)⟩
theorem pGood2 {z : MethodName} {c2 : ByteArray} {n2 : Nat} {r2 : Option FieldType} (h : Cond.code z c2 n2 r2 ∈ lw_ok) : GoodIn lw_ok (pWs z c2 n2 r2) := by
  intro w hw
  have h2 : w ∈ lw_ok := by
    rcases List.mem_cons.mp hw with rfl | h3
    · exact h
    · exact h3
  exact ⟨h2, good_of_word (lw_good h2)⟩
/-- a call's start and end -/
def pPst (D : va_G) (cy : Nat → ClassId) (B b : Nat) (g : pG) (σ : pM) (U : State) : Prop := pW D cy B b U g σ U.heap ∧ va_K D vwCl (pTy cy) U
def pPre (D : va_G) (cy : Nat → ClassId) (B b : Nat) (g : pG) (σ : pM) (U : State) : Prop := pW D cy B b U g σ U.heap ∧ va_K D vwCl (pTy cy) U ∧ pNst U
def pOut (B b : Nat) (r : List pV) : Outcome := .returned (r.map (tV B b)).head?
def pQc (D : va_G) (cy : Nat → ClassId) (B b : Nat) (Q : pQ) : Array Value → State → Outcome → State → Prop := fun _ st oc t =>
  ∃ (r : List pV) (g : pG) (σ : pM), r.length ≤ 1 ∧ oc = pOut B b r ∧ Q r g σ ∧ pPst D cy B b g σ t ∧ va_F (fun q => B ≤ q) st t
def pRm (d : Nat) (z : MethodName) : Room := { frames := d, cells := (pBd z).1, slots := (pBd z).2, locals := 64 * d }
def pMet (l : Launch) (D : va_G) (cy : Nat → ClassId) (B b d : Nat) (z : MethodName) (as : List pV) (g : pG) (σ : pM) (Q : pQ) : Prop :=
  ∃ (cc : ByteArray) (nL : Nat) (rt : Option FieldType), Cond.code z cc nL rt ∈ lw_ok ∧ nL ≤ 40 ∧ Met l z (pWs z cc nL rt) (pRm d z) (va_Pc (as.map (tV B b)) (pPre D cy B b g σ)) (pQc D cy B b Q) (pBd z).1 (pBd z).2 (fun q => B ≤ q)
theorem pW_moved {D : va_G} {cy : Nat → ClassId} {B b : Nat} {u U : State} {g : pG} {σ : pM} {H : Heap} (hvm : u.vm.Alike U.vm) (h : pW D cy B b u g σ H) : pW D cy B b U g σ H :=
  ⟨h.1, h.2.1, h.2.2.1, h.2.2.2.1, h.2.2.2.2.1.moved hvm, h.2.2.2.2.2⟩
section S3
variable {p : Program} {l : Launch} {e : Env} {R : Room} {s : State} {m : MethodId} {args : Array Value} {below : List Frame} {meth : Method} {c : Code} {D : va_G} {cy : Nat → ClassId} {B b : Nat} {Qf : State → Prop} {y : MethodName} {cc : ByteArray} {nL bc bs d : Nat}
theorem pCat (B b : Nat) : ∀ st : List pV, ((st.map (tV B b)).map fun v => v.category).sum = (st.map pC).sum
  | [] => rfl
  | v :: t => by
    show (tV B b v).category + ((t.map (tV B b)).map fun v => v.category).sum = pC v + (t.map pC).sum
    rw [tV_cat, pCat B b t]
/-- behind a call -/
theorem pBack {H : Heap} {locs : List Loc} {l0 : Array Slot} {k n mc ms pc : Nat} {st0 : List Value} {ls : pL} {st : List pV} {a : Array Value} {Q : pQ} (hr : va_Run p l e R s m args below meth c H locs k n mc ms (F0 m pc l0 st0) (st.map (tV B b)) (pQc D cy B b Q a) (fun q => B ≤ q)) (hS : va_S (fun q => B ≤ q) s.heap H locs) (hl : lv_has l0 nL (ls.map (fun q => (q.1, tV B b q.2))))
    (kk : ∀ (r : List pV) (g : pG) (σ : pM), Q r g σ → pS p l e R s m args below meth c D cy B b nL Qf (pc + 3) ls (r ++ st) g σ (k + mc) (n + ms)) : W p l e R s m args below meth c H locs k n Qf (F0 m pc l0 st0) := by
  intro T hT X
  obtain ⟨v, st₀, t, T2, L, h0, X2, hL, e1, e2, ⟨r, g, σ, hr1, hv, hq, hpre, hz, hk⟩, stp⟩ := hr T hT X
  have hvm : s.vm.Alike t.vm := by rw [← e2]; exact X2.warmed.alike
  have hst : v.toList ++ st.map (tV B b) = (r ++ st).map (tV B b) := by
    have hv2 : v = (r.map (tV B b)).head? := Outcome.returned.inj hv
    rw [hv2]
    match r, hr1 with
    | [], _ => rfl
    | [x], _ => rfl
    | _ :: _ :: _, h => simp at h
  rw [hst] at stp
  rw [h0] at hz hk
  obtain ⟨t2, a1, b1⟩ := kk r g σ hq T2.heap (locs ++ L) l0 (by rw [e1]; exact pW_moved hvm.symm hpre.1) ⟨Nat.le_trans hS.1 (by rw [e1]; exact hz), fun q h1 h2 => by rw [e1, hk q (Nat.lt_of_lt_of_le h1 hS.1) h2]; exact hS.2.1 q h1 h2, fun q hq => by
      rcases List.mem_append.mp hq with h | h
      · exact hS.2.2 q h
      · exact hL q h⟩ hl T2 rfl X2
  exact ⟨t2, stp t2 a1, b1⟩
theorem pBlind {as : List Value} {g : pG} {σ : pM} : FrameBlind (va_Pc as (pPre D cy B b g σ)) := fun a U g1 mk h => ⟨h.1, pW_moved (Vm.Alike.refl U.vm) h.2.1, va_K.moved (u := U) (U := U.calling g1 mk a) (Vm.Alike.refl U.vm) h.2.2.1, fun a1 i x h1 h2 => va_Nw.same rfl rfl (h.2.2.2.1 a1 i x h1 h2), va_AO.moved (u := U) (Vm.Alike.refl U.vm) h.2.2.2.2.1, va_AO.moved (u := U) (Vm.Alike.refl U.vm) h.2.2.2.2.2⟩
theorem pStart {as : List Value} {g : pG} {σ : pM} {H : Heap} (hW : pW D cy B b s g σ H) (hK : va_K D vwCl (pTy cy) s) (hN : pNst s) : ∀ U : State, U.heap = H → s.WarmedH U.vm → va_Pc as (pPre D cy B b g σ) as.toArray U :=
  fun U hU hw => ⟨rfl, by rw [hU]; exact pW_moved hw.alike hW, va_K.moved hw.alike hK, fun a1 i x h1 h2 => va_Nw.warmM hw (hN.1 a1 i x h1 h2), va_AO.moved hw.alike hN.2.1, va_AO.moved hw.alike hN.2.2⟩
theorem so_callv {C : pH} (X : pX p s m args c D cy y cc nL) (hR : bc ≤ R.cells ∧ bs ≤ R.slots ∧ d + 1 ≤ R.frames ∧ 64 * (d + 1) ≤ R.locals) (hC : ∀ z as g σ Q, C z as g σ Q → pMet l D cy B b d z as g σ Q) : ru_callv C y cc bc bs (pS p l e R s m args below meth c D cy B b nL Qf) := by
  obtain ⟨hx, hb, hml, hown, hts, hK, hN⟩ := X
  intro pc q ls st g σ k n i o ci z as m1 st0 hd hq ho hk h7 hcl w1 w2 w3 w4 hpar hlen hst0 b1 b2 b3 hcall H locs l0 hW hS hl
  subst hq
  obtain ⟨cc2, nL2, rt2, hcode, hnL, hM⟩ := hC _ _ _ _ _ hcall
  have h0 := pW_pos hW (o := o) (by omega)
  obtain ⟨cell, q1, q2, q3, -⟩ := (hW.2.2.2.2.2 o h0 ho).1 (by rw [hk]; exact h7)
  obtain ⟨r, hr⟩ : ∃ r, vwCl[ci]? = some r := by cases h : vwCl[ci]? with
    | none => rw [h] at hcl; cases hcl
    | some r => exact ⟨r, rfl⟩
  have hrc : r.1 = z.cls := by rw [hr] at hcl; simpa using hcl
  have hrecv : ∃ cellB : Cell, H[tA B b o]? = some cellB ∧ cellB.vm.isStatics = false ∧ s.vm.findClass z.cls = some cellB.cls := ⟨cell, q1, by rw [q3]; rfl, by rw [q2, hk, ← hrc]; exact (hK.1 ci r hr).2.1⟩
  have cw := cwV (R := R) (s := s) (args := args) (own := y.cls) (index := i) (C := z.cls) (y := z) (ws := pWs z cc2 nL2 rt2) (rm := pRm d z) (mc := (pBd z).1) (ms := (pBd z).2) m1 hts (fun w hw => by
    rcases List.mem_append.mp hw with h | h
    · have : w ∈ lw_ok := by
        rcases List.mem_cons.mp h with rfl | h
        · exact w1
        · rcases List.mem_cons.mp h with rfl | h
          · exact w2
          · rcases List.mem_cons.mp h with rfl | h
            · exact w3
            · rw [List.mem_singleton.mp h]; exact w4
      exact ⟨this, good_of_word (lw_good this)⟩
    · exact pGood2 hcode w h) rfl rfl rfl ⟨rfl, hpar.1, hpar.2.1, hpar.2.2⟩ ⟨by show d + 1 ≤ R.frames; omega, by show 8 + (nL2 + 11) + 64 * d ≤ R.locals; omega⟩
  refine pBack (mc := (pBd z).1) (ms := (pBd z).2) (va_runV (b := tA B b o) (As := as.map (tV B b)) (rest := st.map (tV B b)) ⟨hx, hb, hml, hown, hts⟩ hM cw ⟨pBlind, hrecv, pStart hW hK hN⟩ rfl (by rw [List.length_map]; exact hlen) hl.1 ?_ (lv_room (by rw [pCat]; exact b3)) hd ⟨by omega, by omega⟩) hS hl (fun r g2 σ2 h => h)
  show st0.map (tV B b) = _
  rw [hst0, List.map_append, List.map_reverse]
  rfl
theorem so_calls {C : pH} (X : pX p s m args c D cy y cc nL) (hR : bc ≤ R.cells ∧ bs ≤ R.slots ∧ d + 1 ≤ R.frames ∧ 64 * (d + 1) ≤ R.locals) (hC : ∀ z as g σ Q, C z as g σ Q → pMet l D cy B b d z as g σ Q) : ru_calls C y cc bc bs (pS p l e R s m args below meth c D cy B b nL Qf) := by
  obtain ⟨hx, hb, hml, hown, hts, hK, hN⟩ := X
  intro pc q ls st g σ k n i z as m1 st0 hd hq w1 w2 w3 hpar hlen hst0 b1 b2 b3 hcall H locs l0 hW hS hl
  subst hq
  obtain ⟨cc2, nL2, rt2, hcode, hnL, hM⟩ := hC _ _ _ _ _ hcall
  have cw := va_cwS (R := R) (s := s) (args := args) (own := y.cls) (index := i) (y := z) (ws := pWs z cc2 nL2 rt2) (rm := pRm d z) (mc := (pBd z).1) (ms := (pBd z).2) m1 hts (fun w hw => by
    rcases List.mem_append.mp hw with h | h
    · have : w ∈ lw_ok := by
        rcases List.mem_cons.mp h with rfl | h
        · exact w1
        · rcases List.mem_cons.mp h with rfl | h
          · exact w2
          · rw [List.mem_singleton.mp h]; exact w3
      exact ⟨this, good_of_word (lw_good this)⟩
    · exact pGood2 hcode w h) rfl rfl rfl hpar ⟨by show d + 1 ≤ R.frames; omega, by show 8 + (nL2 + 11) + 64 * d ≤ R.locals; omega⟩
  refine pBack (mc := (pBd z).1) (ms := (pBd z).2) (va_runS (As := as.map (tV B b)) (rest := st.map (tV B b)) ⟨hx, hb, hml, hown, hts⟩ hM cw ⟨pBlind, pStart hW hK hN⟩ rfl (by rw [List.length_map]; exact hlen) hl.1 ?_ (lv_room (by rw [pCat]; exact b3)) hd ⟨by omega, by omega⟩) hS hl (fun r g2 σ2 h => h)
  show st0.map (tV B b) = _
  rw [hst0, List.map_append, List.map_reverse]
theorem so_callsn {C : pH} (X : pX p s m args c D cy y cc nL) (hR : bc ≤ R.cells ∧ bs ≤ R.slots ∧ d + 1 ≤ R.frames ∧ 64 * (d + 1) ≤ R.locals) (hC : ∀ z as g σ Q, C z as g σ Q → pMet l D cy B b d z as g σ Q) : ru_callsn C y cc bc bs (pS p l e R s m args below meth c D cy B b nL Qf) := by
  obtain ⟨hx, hb, hml, hown, hts, hK, hN⟩ := X
  intro pc q ls st g σ k n i host z as m1 st0 hd hq w1 w2 w3 hpar hlen hst0 b1 b2 b3 hcall H locs l0 hW hS hl
  subst hq
  obtain ⟨cc2, nL2, rt2, hcode, hnL, hM⟩ := hC _ _ _ _ _ hcall
  have cw := va_cnB (R := R) (s := s) (args := args) (own := y.cls) (host := host) (index := i) (y := z) (ws := pWs z cc2 nL2 rt2) (rm := pRm d z) (mc := (pBd z).1) (ms := (pBd z).2) m1 hts (pGood2 hcode) rfl rfl rfl (hN.1 _ _ _ _ w1) (hts _ w3) hpar ⟨by show d + 1 ≤ R.frames; omega, by show 8 + (nL2 + 11) + 64 * d ≤ R.locals; omega⟩
  refine pBack (mc := (pBd z).1) (ms := (pBd z).2) (va_runSN (As := as.map (tV B b)) (rest := st.map (tV B b)) ⟨hx, hb, hml, hown, hts⟩ hM ⟨cw, hts _ w2, trivial⟩ ⟨pBlind, pStart hW hK hN⟩ rfl (by rw [List.length_map]; exact hlen) hl.1 ?_ (lv_room (by rw [pCat]; exact b3)) hd ⟨by omega, by omega⟩) hS hl (fun r g2 σ2 h => h)
  show st0.map (tV B b) = _
  rw [hst0, List.map_append, List.map_reverse]
theorem pPar0 {z : MethodName} {n : Nat} (h : pPar z n) : z.cls ≠ "java/lang/invoke/MethodHandle" ∧ z.cls ≠ "java/lang/invoke/VarHandle" ∧ (parseMethodDescriptor z.desc).map (fun d => d.parameters.length) = some n := h
theorem so_calli {C : pH} (X : pX p s m args c D cy y cc nL) (hR : bc ≤ R.cells ∧ bs ≤ R.slots ∧ d + 1 ≤ R.frames ∧ 64 * (d + 1) ≤ R.locals) (hC : ∀ z as g σ Q, C z as g σ Q → pMet l D cy B b d z as g σ Q) (hrt : ∀ z cc2 n2 r2, z.name = "<init>" → Cond.code z cc2 n2 r2 ∈ lw_ok → r2 = none) : ru_calli C y cc bc bs (pS p l e R s m args below meth c D cy B b nL Qf) := by
  obtain ⟨hx, hb, hml, hown, hts, hK, hN⟩ := X
  intro pc q ls st g σ k n i o z hd hq w1 w2 w3 hzn hpar b1 b2 b3 hcall H locs l0 hW hS hl
  subst hq
  obtain ⟨cc2, nL2, rt2, hcode, hnL, hM⟩ := hC _ _ _ _ _ hcall
  have hr0 := hrt _ _ _ _ hzn hcode
  subst hr0
  have cw := cwI (R := R) (s := s) (args := args) (own := y.cls) (index := i) (y := z) (ws := pWs z cc2 nL2 none) (rm := pRm d z) (mc := (pBd z).1) (ms := (pBd z).2) 0 hts (pGood2 hcode) rfl rfl rfl (hts _ w3) (hts _ w1) (hts _ w2) hzn hpar ⟨by show d + 1 ≤ R.frames; omega, by show 8 + (nL2 + 11) + 64 * d ≤ R.locals; omega⟩
  exact pBack (mc := (pBd z).1) (ms := (pBd z).2) (va_runI (b := tA B b o) (As := []) (rest := st.map (tV B b)) ⟨hx, hb, hml, hown, hts⟩ hM cw ⟨pBlind, pStart hW hK hN⟩ rfl rfl hl.1 rfl (lv_room (by rw [pCat]; exact b3)) hd ⟨by omega, by omega⟩) hS hl (fun r g2 σ2 h => h)
theorem so_callin {C : pH} (X : pX p s m args c D cy y cc nL) (hR : bc ≤ R.cells ∧ bs ≤ R.slots ∧ d + 1 ≤ R.frames ∧ 64 * (d + 1) ≤ R.locals) (hC : ∀ z as g σ Q, C z as g σ Q → pMet l D cy B b d z as g σ Q) (hrt : ∀ z cc2 n2 r2, z.name = "<init>" → Cond.code z cc2 n2 r2 ∈ lw_ok → r2 = none) : ru_callin C y cc bc bs (pS p l e R s m args below meth c D cy B b nL Qf) := by
  obtain ⟨hx, hb, hml, hown, hts, hK, hN⟩ := X
  intro pc q ls st g σ k n i o host z hd hq w1 w2 w3 hzn hpar b1 b2 b3 hcall H locs l0 hW hS hl
  subst hq
  obtain ⟨cc2, nL2, rt2, hcode, hnL, hM⟩ := hC _ _ _ _ _ hcall
  have hr0 := hrt _ _ _ _ hzn hcode
  subst hr0
  have cw := va_cnB (R := R) (s := s) (args := args) (own := y.cls) (host := host) (index := i) (y := z) (ws := pWs z cc2 nL2 none) (rm := pRm d z) (mc := (pBd z).1) (ms := (pBd z).2) 0 hts (pGood2 hcode) rfl rfl rfl (hN.1 _ _ _ _ w1) (hts _ w3) hpar ⟨by show d + 1 ≤ R.frames; omega, by show 8 + (nL2 + 11) + 64 * d ≤ R.locals; omega⟩
  exact pBack (mc := (pBd z).1) (ms := (pBd z).2) (va_runIN (b := tA B b o) (As := []) (rest := st.map (tV B b)) ⟨hx, hb, hml, hown, hts⟩ hM ⟨cw, hzn, hts _ w2⟩ ⟨pBlind, pStart hW hK hN⟩ rfl rfl hl.1 rfl (lv_room (by rw [pCat]; exact b3)) hd ⟨by omega, by omega⟩) hS hl (fun r g2 σ2 h => h)
theorem pObj1 : Cond.instanceMethod objectInit ∈ lw_ok := by decide +kernel
theorem pObj2 : Cond.code objectInit ⟨#[0xb1]⟩ 1 none ∈ lw_ok := by decide +kernel
theorem so_oini (X : pX p s m args c D cy y cc nL) (hR : 1 ≤ R.frames ∧ 20 ≤ R.locals) : ru_oini y cc (pS p l e R s m args below meth c D cy B b nL Qf) := by
  obtain ⟨hx, hb, hml, hown, hts, hK, hN⟩ := X
  intro pc q ls st g σ k n i o hd hq w1 b3 kk H locs l0 hW hS hl
  subst hq
  exact W.objInit hx hb hown (hts _ w1) (hts _ pObj1) (hts _ pObj2) rfl (by rw [hml]; exact hl.1) rfl hd hR.1 (by show 2 * 0 + ((st.map (tV B b)).map fun v => v.category).sum + 12 ≤ _; rw [pCat]; omega) (kk H locs l0 hW hS hl)
/-- the returns of a method that has a contract -/
theorem so_iret {rt : Option FieldType} {Q : pQ} (X : pX p s m args c D cy y cc nL) (hr : meth.sig.returnType = rt) (hlocks : meth.locks = false) : ru_iret cc rt bc bs Q (pS p l e R s m args below meth c D cy B b nL (MQ below (pQc D cy B b Q) args s bc bs (fun q => B ≤ q))) := by
  obtain ⟨hx, hb, hml, hown, hts, hK, hN⟩ := X
  intro pc q ls st g σ k n z hd h1 h2 hrt hq H locs l0 hW hS hl
  refine W.widen (k := bc) (n := bs) h1 h2 ?_
  exact W.iret hx hb (hr.trans hrt) (fun t ht hw => ⟨[vI z], g, σ, Nat.le_refl 1, rfl, hq, ⟨by rw [ht]; exact pW_moved hw.alike hW, va_K.moved hw.alike hK⟩, hS.F ht⟩) hS.2.2 hd hlocks
theorem so_zret {rt : Option FieldType} {Q : pQ} (X : pX p s m args c D cy y cc nL) (hr : meth.sig.returnType = rt) (hlocks : meth.locks = false) : ru_zret cc rt bc bs Q (pS p l e R s m args below meth c D cy B b nL (MQ below (pQc D cy B b Q) args s bc bs (fun q => B ≤ q))) := by
  obtain ⟨hx, hb, hml, hown, hts, hK, hN⟩ := X
  intro pc q ls st g σ k n z hd h1 h2 hrt hz hq H locs l0 hW hS hl
  refine W.widen (k := bc) (n := bs) h1 h2 ?_
  exact W.zret hx hb (hr.trans hrt) (by rcases hz with rfl | rfl <;> rfl) (fun t ht hw => ⟨[vI z], g, σ, Nat.le_refl 1, rfl, hq, ⟨by rw [ht]; exact pW_moved hw.alike hW, va_K.moved hw.alike hK⟩, hS.F ht⟩) hS.2.2 hd hlocks
theorem so_aret {rt : Option FieldType} {Q : pQ} (X : pX p s m args c D cy y cc nL) (hr : meth.sig.returnType = rt) (hlocks : meth.locks = false) : ru_aret cc rt bc bs Q (pS p l e R s m args below meth c D cy B b nL (MQ below (pQc D cy B b Q) args s bc bs (fun q => B ≤ q))) := by
  obtain ⟨hx, hb, hml, hown, hts, hK, hN⟩ := X
  intro pc q ls st g σ k n r C hd h1 h2 hrt hq H locs l0 hW hS hl
  refine W.widen (k := bc) (n := bs) h1 h2 ?_
  exact W.aret hx hb (hr.trans hrt) (Or.inl ⟨_, rfl⟩) (by cases r; exact Or.inl rfl; exact Or.inr ⟨_, rfl⟩) (fun t ht hw => ⟨[vR r], g, σ, Nat.le_refl 1, rfl, hq, ⟨by rw [ht]; exact pW_moved hw.alike hW, va_K.moved hw.alike hK⟩, hS.F ht⟩) hS.2.2 hd hlocks
theorem so_vret {rt : Option FieldType} {Q : pQ} (X : pX p s m args c D cy y cc nL) (hr : meth.sig.returnType = rt) (hlocks : meth.locks = false) : ru_vret cc rt bc bs Q (pS p l e R s m args below meth c D cy B b nL (MQ below (pQc D cy B b Q) args s bc bs (fun q => B ≤ q))) := by
  obtain ⟨hx, hb, hml, hown, hts, hK, hN⟩ := X
  intro pc q ls st g σ k n hd h1 h2 hrt hq H locs l0 hW hS hl
  refine W.widen (k := bc) (n := bs) h1 h2 ?_
  exact W.vret hx hb (hr.trans hrt) (fun t ht hw => ⟨[], g, σ, Nat.zero_le 1, rfl, hq, ⟨by rw [ht]; exact pW_moved hw.alike hW, va_K.moved hw.alike hK⟩, hS.F ht⟩) hS.2.2 hd hlocks
/-- all rules at once, the returns given -/
theorem so_all {C : pH} {rt : Option FieldType} {Q : pQ} (X : pX p s m args c D cy y cc nL) (hin2 : y.name = "<init>" → meth.name = y.name) (hR : bc ≤ R.cells ∧ bs ≤ R.slots ∧ d + 1 ≤ R.frames ∧ 64 * (d + 1) ≤ R.locals) (hC : ∀ z as g σ Q, C z as g σ Q → pMet l D cy B b d z as g σ Q) (hrt : ∀ z cc2 n2 r2, z.name = "<init>" → Cond.code z cc2 n2 r2 ∈ lw_ok → r2 = none)
    (r1 : ru_iret cc rt bc bs Q (pS p l e R s m args below meth c D cy B b nL Qf)) (r2 : ru_zret cc rt bc bs Q (pS p l e R s m args below meth c D cy B b nL Qf)) (r3 : ru_aret cc rt bc bs Q (pS p l e R s m args below meth c D cy B b nL Qf)) (r4 : ru_vret cc rt bc bs Q (pS p l e R s m args below meth c D cy B b nL Qf)) : Clo C y cc rt nL bc bs Q (pS p l e R s m args below meth c D cy B b nL Qf) :=
  ⟨so_iconst X, so_bipush X, so_sipush X, so_lconst X, so_ldc X, so_ldcw X, so_ldc2 X, so_null X, so_iloadn X, so_iload X, so_aloadn X, so_lloadn X, so_lload X, so_istoren X, so_istore X, so_astoren X, so_iinc X, so_dup X, so_dup2 X, so_iadd X, so_isub X, so_imul X, so_ladd X, so_lmul X, so_idiv X, so_irem X, so_lrem X, so_ishl X, so_ishr X, so_iushr X, so_ior X, so_iand X, so_iand31 X, so_land X, so_i2l X, so_l2i X, so_lcmp X, so_goto X, so_icmp X, so_ifc X, so_ifnn X, so_tsw X, so_lsw X, so_getf X, so_putf X, so_putr X hin2, so_iald X, so_iast X, so_zald X, so_zast X, so_aald X, so_aast X, so_alen X, so_new X ⟨hR.1, hR.2.1⟩, so_newi X ⟨hR.1, hR.2.1⟩, so_newz X ⟨hR.1, hR.2.1⟩, so_newq X ⟨hR.1, hR.2.1⟩, so_oini X ⟨by omega, by omega⟩, so_callv X hR hC, so_calls X hR hC, so_callsn X hR hC, so_calli X hR hC hrt, so_callin X hR hC hrt, r1, r2, r3, r4, so_sub⟩
end S3
theorem pAg_map (B b : Nat) : ∀ (as : List pV) (i : Nat), lv_args i (as.map (tV B b)) = (pAg i as).map (fun q => (q.1, tV B b q.2))
  | [], _ => rfl
  | v :: t, i => by
    show (i, tV B b v) :: lv_args (if (tV B b v).category = 2 then i + 2 else i + 1) (t.map (tV B b)) = (i, tV B b v) :: (pAg (if pC v = 2 then i + 2 else i + 1) t).map (fun q => (q.1, tV B b q.2))
    rw [tV_cat, pAg_map B b t]
theorem pSl_len (B b : Nat) : ∀ as : List pV, (lg_sl (as.map (tV B b))).length = (as.map pC).sum
  | [] => rfl
  | v :: t => by
    have h := pSl_len B b t
    have e : lg_sl ((v :: t).map (tV B b)) = (if (tV B b v).category = 2 then [.val (tV B b v), .second] else [.val (tV B b v)]) ++ lg_sl (t.map (tV B b)) := by simp [lg_sl]
    rw [e, List.length_append, h, tV_cat]
    show _ = pC v + _
    rcases v with z | z | r <;> rfl
/-- no constructor answers -/
def pIni (w : Cond) : Bool := match w with
  | .code z _ _ rt => !(z.name == "<init>") || rt.isNone
  | _ => true
theorem lw_ini : lw_ok.all pIni = true := by decide +kernel
theorem pIni_ok : ∀ z cc2 n2 r2, z.name = "<init>" → Cond.code z cc2 n2 r2 ∈ lw_ok → r2 = none := by
  intro z cc2 n2 r2 h1 h2
  have h := List.all_eq_true.mp lw_ini _ h2
  simpa [pIni, h1] using h
/-- THE LAND IS SOUND: what a call of the land promises, the machine keeps -/
theorem pSound (l : Launch) (D : va_G) (cy : Nat → ClassId) (B b : Nat) : ∀ (d : Nat) (z : MethodName) (as : List pV) (g : pG) (σ : pM) (Q : pQ), pCall d z as g σ Q → pMet l D cy B b d z as g σ Q
  | 0, _, _, _, _, _, h => h.elim
  | d + 1, z, as, g, σ, Q, h => by
    obtain ⟨cc, nL, rt, hcode, hpl, hnL, hsum, hP⟩ := h
    refine ⟨cc, nL, rt, hcode, hnL, ?_⟩
    refine Met.ofW (cc := cc) (maxL := nL) (ret := rt) hpl rfl ?_
    intro p e s m args below meth c s₁ Bd hml hv
    obtain ⟨rfl, hW, hK, hN⟩ := hv
    have hts0 := atoms_spec (ws := pWs z cc nL rt) Bd.pre
    have hts : ∀ w ∈ lw_ok, w.before ((as.map (tV B b)).toArray) s = true := fun w hw => hts0 w (List.mem_cons_of_mem _ hw)
    have hown : s.vm.findClass z.cls = some m.cls := findClass_of_methodNamed Bd.named
    have hlocks := Bd.notSynchronized
    have hname : meth.name = z.name := (name_of_methodNamed Bd.named Bd.method).1
    have X : pX p s m ((as.map (tV B b)).toArray) c D cy z cc nL := ⟨Bd.exec, Bd.bytes, hml, hown, hts, hK, hN⟩
    have hl := lv_entry (as.map (tV B b)) (n := nL) (by rw [pSl_len]; exact hsum)
    rw [pAg_map] at hl
    rw [lg_entry_eq]
    exact hP _ (so_all X (fun _ => hname) (d := d) ⟨Nat.le_refl _, Nat.le_refl _, Nat.le_refl _, Nat.le_refl _⟩ (pSound l D cy B b d) pIni_ok (so_iret X Bd.returns hlocks) (so_zret X Bd.returns hlocks) (so_aret X Bd.returns hlocks) (so_vret X Bd.returns hlocks)) s.heap [] _ hW va_S.rf hl
end
section
/-! The law, out of its walk in the land -/
def R_law : String := "PourPlanLaw"
def lw_P (b : Addr) (xs : List Int32) (args : Array Value) (s : State) : Prop := args = #[.ref b] ∧ s.IntsAt b xs ∧ xs.length ≤ 1536 ∧ (Jvm.Cond.and given_1 narrow_1).before args s = true
def lw_Q (_ : Array Value) (s : State) (o : Outcome) (t : State) : Prop := o = .returned (some (.int 1)) ∧ Framed s o t [] 600000 7302250
def lw_Z (below : List Frame) (a : Array Value) (s : State) : State → Prop := fun t => ∃ o, t.status = .running ∧ Ended t below o ∧ lw_Q a s o t
/-- the law's own end, with 1 on the stack, nothing written that was there before, its room as the claim has it -/
theorem lw_ret {p : Program} {l : Launch} {e : Env} {s : State} {m : MethodId} {below : List Frame} {meth : Method} {c : Code} {b : Nat} (hx : p.tables.exec = Jvm.exec) (hb : c.code = code) (hr : meth.sig.returnType = ret) (hlocks : meth.locks = false) {pc : Nat} {H : Heap} {ls : Array Slot} (hdg : decode code pc = .ok (.ireturn, 1)) : W p l e room_1 s m #[Value.ref b] below meth c H [] 600000 7302250 (lw_Z below #[Value.ref b] s) (F0 m pc ls [.int 1]) := by
  intro T hT X
  obtain ⟨fs, hret, hrun, hended, hW, hframe⟩ := X.leave (v := some (.int 1)) (hlocks := hlocks) (fun h => by rw [hr] at h; cases h)
  have hmeth' : T.vm.method? m = some meth := X.method'
  refine ⟨T.setFrames fs, ?_, .returned (some (.int 1)), hrun, hended, rfl, ⟨_, rfl⟩, hW, hframe⟩
  jvm_step X.here [X.here.top, hx, hb, hdg, hmeth', hr, ret, narrow_b1]
  (try refine ⟨rfl, ?_⟩); (try refine ⟨rfl, ?_⟩)
  first | (intro acts; rw [hret _ acts rfl rfl rfl]) | rw [hret _ _ rfl rfl rfl]
  exact Steps.refl _
/-- what holds at the law's entry: the machine, the code, the tables' words (any of lw_tbl by 'hts w (by decide +kernel)'), the script of L ints xs at the cell b, what the Statement gives of the start (any of its parts by flat_of_before) -/
def lw_At (p : Program) (s : State) (m : MethodId) (meth : Method) (c : Code) (b L : Nat) (xs : Nat → Int32) : Prop :=
  p.tables.exec = Jvm.exec ∧ c.code = code ∧ meth.sig.returnType = ret ∧ c.maxLocals = 4 ∧ s.vm.findClass R_law = some m.cls ∧ (∀ w ∈ lw_tbl, w.before #[Value.ref b] s = true) ∧ va_X b L xs s s.heap ∧ b < s.heap.size ∧ meth.locks = false ∧ (Jvm.Cond.and given_1 narrow_1).before #[Value.ref b] s = true
/-- the script's world: one cell -/
def gS (L : Nat) : pG := (1, fun _ => (11, L), fun _ _ => none)
def sS (xs : Nat → Int32) : pM := fun _ j => (xs j).toInt
/-- what is owed of the law, in the land -/
def pLaw : Prop := ∀ (L : Nat) (xs : Nat → Int32) (P : pP), L ≤ 1536 → Clo (pCall 60) yL_law cL_law ret 4 600000 7302250 (fun r _ _ => r = [vI 1]) P → P 0 [(0, vR (some 0))] [] (gS L) (sS xs) 0 0
theorem lw_ok_of {args : Array Value} {s : State} (h : ∀ w ∈ lw_tbl, w.before args s = true) : ∀ w ∈ lw_ok, w.before args s = true := fun w hw => h w (List.mem_filter.mp hw).1
theorem pIns0 : Cond.instantiable RX0 3 ∈ lw_tbl := by decide +kernel
theorem pIns1 : Cond.instantiable RX1 3 ∈ lw_tbl := by decide +kernel
theorem pIns2 : Cond.instantiable RX2 3 ∈ lw_tbl := by decide +kernel
theorem pIns3 : Cond.instantiable RX3 18 ∈ lw_tbl := by decide +kernel
theorem pIns4 : Cond.instantiable RX4 13 ∈ lw_tbl := by decide +kernel
theorem pIns5 : Cond.instantiable RX5 9 ∈ lw_tbl := by decide +kernel
theorem pIns6 : Cond.instantiable RX6 14 ∈ lw_tbl := by decide +kernel
theorem pWi2 : Cond.arrayClass .int ∈ lw_tbl := by decide +kernel
theorem pWz2 : Cond.arrayClass .boolean ∈ lw_tbl := by decide +kernel
theorem pWo9 : Cond.arrayOver (.object "PourPlan$Image") ∈ lw_tbl := by decide +kernel
theorem pWo10 : Cond.arrayOver (.object "PourPlan$Wall") ∈ lw_tbl := by decide +kernel
set_option maxHeartbeats 4000000 in
theorem whole_open (hlaw : pLaw) {p : Program} {e : Env} {s : State} {m : MethodId} {below : List Frame} {meth : Method} {c : Code} (l : Launch) (hflags : l.flags = flags0) {b L : Nat} {xs : Nat → Int32} (hL : L ≤ 1536) (C0 : lw_At p s m meth c b L xs) : W p l e room_1 s m #[Value.ref b] below meth c s.heap [] 0 0 (lw_Z below #[Value.ref b] s) (entryFrame m ([Value.ref b] : List Value).toArray 4) := by
  obtain ⟨hx, hb, hr, hml, hown, hts, hX, hbl, hlocks, hgv⟩ := id C0
  have hok := lw_ok_of hts
  obtain ⟨c0, i0, k0⟩ := u_known (C := RX0) (T := TX0) (N := 3) (n := 3) hok pIn0 (hts _ pIns0)
  obtain ⟨c1, i1, k1⟩ := u_known (C := RX1) (T := TX1) (N := 3) (n := 3) hok pIn1 (hts _ pIns1)
  obtain ⟨c2, i2, k2⟩ := u_known (C := RX2) (T := TX2) (N := 3) (n := 3) hok pIn2 (hts _ pIns2)
  obtain ⟨c3, i3, k3⟩ := u_known (C := RX3) (T := TX3) (N := 18) (n := 18) hok pIn3 (hts _ pIns3)
  obtain ⟨c4, i4, k4⟩ := u_known (C := RX4) (T := TX4) (N := 13) (n := 13) hok pIn4 (hts _ pIns4)
  obtain ⟨c5, i5, k5⟩ := u_known (C := RX5) (T := TX5) (N := 9) (n := 9) hok pIn5 (hts _ pIns5)
  obtain ⟨c6, i6, k6⟩ := u_known (C := RX6) (T := TX6) (N := 14) (n := 14) hok pIn6 (hts _ pIns6)
  obtain ⟨cA7, kA7, co7, a71, a72, a73⟩ := Cond.arrayClass_spec (hts _ pWi2)
  obtain ⟨cA8, kA8, co8, a81, a82, a83⟩ := Cond.arrayClass_spec (hts _ pWz2)
  obtain ⟨co9, cA9, kA9, a91, a92, a93, a94, a95⟩ := Cond.arrayOver_spec (hts _ pWo9)
  obtain ⟨co10, cA10, kA10, a01, a02, a03, a04, a05⟩ := Cond.arrayOver_spec (hts _ pWo10)
  obtain ⟨D, hD⟩ : ∃ D : va_G, ∀ (k : Nat) (q : vw_C), vwCl[k]? = some q → u_Kn s q.1 q.2.1 q.2.2 (D.1 k) (D.2 k) := by
    refine ⟨(fun k => if k = 0 then c0 else if k = 1 then c1 else if k = 2 then c2 else if k = 3 then c3 else if k = 4 then c4 else if k = 5 then c5 else c6, fun k => if k = 0 then i0 else if k = 1 then i1 else if k = 2 then i2 else if k = 3 then i3 else if k = 4 then i4 else if k = 5 then i5 else i6), ?_⟩
    intro k q hq
    match k, hq with
    | 0, hq => cases hq; exact k0
    | 1, hq => cases hq; exact k1
    | 2, hq => cases hq; exact k2
    | 3, hq => cases hq; exact k3
    | 4, hq => cases hq; exact k4
    | 5, hq => cases hq; exact k5
    | 6, hq => cases hq; exact k6
    | k + 7, hq => simp [vwCl] at hq
  have arr : ∀ {cA : ClassId} {kA : Class} {co : ClassId} {ty : FieldType}, s.vm.classes[cA]? = some kA → kA.kind = .array co ty → ArrOfT s cA ty := fun h1 h2 n z => ⟨fun k h => (by cases h), _, h1, _, h2⟩
  obtain ⟨cy, hcy⟩ : ∃ cy : Nat → ClassId, cy 7 = cA7 ∧ cy 8 = cA8 ∧ cy 9 = cA9 ∧ cy 10 = cA10 := ⟨fun k => if k = 7 then cA7 else if k = 8 then cA8 else if k = 9 then cA9 else cA10, rfl, rfl, rfl, rfl⟩
  obtain ⟨y7, y8, y9, y10⟩ := hcy
  have hK : va_K D vwCl (pTy cy) s := by
    refine ⟨hD, fun k q hq => ?_⟩
    match k, hq with
    | 0, hq => cases hq; rw [y7]; exact ⟨arr a72 a73, a71⟩
    | 1, hq => cases hq; rw [y8]; exact ⟨arr a82 a83, a81⟩
    | 2, hq => cases hq; rw [y9]; exact ⟨arr a93 a94, kA9, co9, a93, a94, a91, a95⟩
    | 3, hq => cases hq; rw [y10]; exact ⟨arr a03 a04, kA10, co10, a03, a04, a01, a05⟩
    | k + 4, hq => simp at hq
  have hN : pNst s := ⟨fun a i x h hm => va_Nw.of rfl (hts _ hm), va_AO.of (hts _ pWo9), va_AO.of (hts _ pWo10)⟩
  have X : pX p s m #[Value.ref b] c D cy yL_law cL_law 4 := ⟨hx, hb, hml, hown, hok, hK, hN⟩
  have hB : s.heap.size + 1 = s.heap.size + (gS L).1 := rfl
  have hW : pW D cy s.heap.size b s (gS L) (sS xs) s.heap := by
    refine ⟨rfl, hbl, rfl, Nat.le_refl 1, ?_, fun o h1 h2 => absurd h2 (by show ¬ o < 1; omega)⟩
    have e : (fun j => iv (sS xs 0 j)) = xs := by funext j; exact iv_self _
    rw [e]
    exact hX
  have hl := lv_entry ([.ref b]) (n := 4) (Nat.le_of_ble_eq_true rfl)
  rw [lg_entry_eq]
  have ret0 : ∀ (k n : Nat) (H : Heap) (locs : List Loc) (l0 : Array Slot) (pc : Nat), k ≤ 600000 → n ≤ 7302250 → va_S (fun q => s.heap.size ≤ q) s.heap H locs → decode cL_law pc = .ok (.ireturn, 1) → W p l e room_1 s m #[Value.ref b] below meth c H locs k n (lw_Z below #[Value.ref b] s) (F0 m pc l0 [.int 1]) := by
    intro k n H locs l0 pc h1 h2 hS hd
    refine va_forget hS.2.2 ?_
    refine W.widen h1 h2 ?_
    exact lw_ret hx hb hr hlocks hd
  refine hlaw L xs _ hL (so_all (d := 60) X (fun h => absurd h (by decide)) ⟨Nat.le_refl _, Nat.le_refl _, Nat.le_of_ble_eq_true rfl, Nat.le_of_ble_eq_true rfl⟩ (pSound l D cy s.heap.size b 60) pIni_ok ?_ ?_ ?_ ?_) s.heap [] _ hW va_S.rf hl
  · intro pc q ls st g σ k n z hd h1 h2 hrt hq H locs l0 hW hS hl
    cases hrt
  · intro pc q ls st g σ k n z hd h1 h2 hrt hz hq H locs l0 hW hS hl
    have hz1 : z = 1 := by
      have h3 : ([vI z] : List pV) = [vI 1] := hq
      simpa using h3
    subst hz1
    exact ret0 k n H locs l0 pc h1 h2 hS hd
  · intro pc q ls st g σ k n r C hd h1 h2 hrt hq H locs l0 hW hS hl
    cases hrt
  · intro pc q ls st g σ k n hd h1 h2 hrt hq H locs l0 hW hS hl
    cases hrt
end
section
/-! Which words stand where -/
theorem lw_at {w : Cond} (i : Nat) (h : lw_tbl[i]? = some w) (hg : goodWord w = true) : w ∈ lw_ok := List.mem_filter.mpr ⟨List.mem_of_getElem? h, hg⟩
theorem cl_RL_7 : Cond.classLink RL 7 RX5 ∈ lw_ok := lw_at 63 (by decide +kernel) rfl
theorem iz_RX5 : Cond.instantiable RX5 9 ∈ lw_ok := lw_at 64 (by decide +kernel) rfl
theorem cl_RX5_7 : Cond.classLink RX5 7 RX4 ∈ lw_ok := lw_at 71 (by decide +kernel) rfl
theorem iz_RX4 : Cond.instantiable RX4 13 ∈ lw_ok := lw_at 72 (by decide +kernel) rfl
theorem fl_RX4_41 : pFl RX4 41 4 0 := ⟨_, _, rfl, by decide, rfl, lw_at 87 (by decide +kernel) rfl⟩
theorem fl_RX5_50 : pFl RX5 50 4 0 := ⟨_, _, rfl, by decide, rfl, lw_at 88 (by decide +kernel) rfl⟩
theorem fl_RX3_82 : pFl RX3 82 4 0 := ⟨_, _, rfl, by decide, rfl, lw_at 89 (by decide +kernel) rfl⟩
theorem fl_RX4_44 : pFl RX4 44 4 1 := ⟨_, _, rfl, by decide, rfl, lw_at 90 (by decide +kernel) rfl⟩
theorem fl_RX5_54 : pFl RX5 54 4 1 := ⟨_, _, rfl, by decide, rfl, lw_at 91 (by decide +kernel) rfl⟩
theorem fl_RX3_86 : pFl RX3 86 4 1 := ⟨_, _, rfl, by decide, rfl, lw_at 92 (by decide +kernel) rfl⟩
theorem fl_RX4_53 : pFl RX4 53 4 2 := ⟨_, _, rfl, by decide, rfl, lw_at 93 (by decide +kernel) rfl⟩
theorem fl_RX3_90 : pFl RX3 90 4 2 := ⟨_, _, rfl, by decide, rfl, lw_at 94 (by decide +kernel) rfl⟩
theorem fl_RX5_288 : pFl RX5 288 4 2 := ⟨_, _, rfl, by decide, rfl, lw_at 95 (by decide +kernel) rfl⟩
theorem fl_RX4_56 : pFl RX4 56 4 3 := ⟨_, _, rfl, by decide, rfl, lw_at 96 (by decide +kernel) rfl⟩
theorem fl_RX5_57 : pFl RX5 57 4 3 := ⟨_, _, rfl, by decide, rfl, lw_at 97 (by decide +kernel) rfl⟩
theorem fl_RX3_66 : pFl RX3 66 4 3 := ⟨_, _, rfl, by decide, rfl, lw_at 98 (by decide +kernel) rfl⟩
theorem fl_RX4_9 : pFl RX4 9 4 4 := ⟨_, _, rfl, by decide, rfl, lw_at 99 (by decide +kernel) rfl⟩
theorem fl_RX5_73 : pFl RX5 73 4 4 := ⟨_, _, rfl, by decide, rfl, lw_at 100 (by decide +kernel) rfl⟩
theorem fl_RX3_94 : pFl RX3 94 4 4 := ⟨_, _, rfl, by decide, rfl, lw_at 101 (by decide +kernel) rfl⟩
theorem fl_RX4_15 : pFl RX4 15 4 5 := ⟨_, _, rfl, by decide, rfl, lw_at 102 (by decide +kernel) rfl⟩
theorem fl_RX5_76 : pFl RX5 76 4 5 := ⟨_, _, rfl, by decide, rfl, lw_at 103 (by decide +kernel) rfl⟩
theorem fl_RX3_98 : pFl RX3 98 4 5 := ⟨_, _, rfl, by decide, rfl, lw_at 104 (by decide +kernel) rfl⟩
theorem fl_RX4_18 : pFl RX4 18 4 6 := ⟨_, _, rfl, by decide, rfl, lw_at 105 (by decide +kernel) rfl⟩
theorem fl_RX5_79 : pFl RX5 79 4 6 := ⟨_, _, rfl, by decide, rfl, lw_at 106 (by decide +kernel) rfl⟩
theorem fl_RX3_102 : pFl RX3 102 4 6 := ⟨_, _, rfl, by decide, rfl, lw_at 107 (by decide +kernel) rfl⟩
theorem fl_RX4_59 : pFl RX4 59 4 7 := ⟨_, _, rfl, by decide, rfl, lw_at 108 (by decide +kernel) rfl⟩
theorem fl_RX5_60 : pFl RX5 60 4 7 := ⟨_, _, rfl, by decide, rfl, lw_at 109 (by decide +kernel) rfl⟩
theorem fl_RX3_125 : pFl RX3 125 4 7 := ⟨_, _, rfl, by decide, rfl, lw_at 110 (by decide +kernel) rfl⟩
theorem fl_RX4_21 : pFl RX4 21 4 8 := ⟨_, _, rfl, by decide, rfl, lw_at 111 (by decide +kernel) rfl⟩
theorem fl_RX5_123 : pFl RX5 123 4 8 := ⟨_, _, rfl, by decide, rfl, lw_at 112 (by decide +kernel) rfl⟩
theorem fl_RX3_109 : pFl RX3 109 4 8 := ⟨_, _, rfl, by decide, rfl, lw_at 113 (by decide +kernel) rfl⟩
theorem fl_RX4_25 : pFl RX4 25 4 9 := ⟨_, _, rfl, by decide, rfl, lw_at 114 (by decide +kernel) rfl⟩
theorem fl_RX5_127 : pFl RX5 127 4 9 := ⟨_, _, rfl, by decide, rfl, lw_at 115 (by decide +kernel) rfl⟩
theorem fl_RX4_28 : pFl RX4 28 4 10 := ⟨_, _, rfl, by decide, rfl, lw_at 116 (by decide +kernel) rfl⟩
theorem fl_RX5_130 : pFl RX5 130 4 10 := ⟨_, _, rfl, by decide, rfl, lw_at 117 (by decide +kernel) rfl⟩
theorem fl_RX3_114 : pFl RX3 114 4 10 := ⟨_, _, rfl, by decide, rfl, lw_at 118 (by decide +kernel) rfl⟩
theorem fl_RX4_31 : pFl RX4 31 4 11 := ⟨_, _, rfl, by decide, rfl, lw_at 119 (by decide +kernel) rfl⟩
theorem fl_RX5_155 : pFl RX5 155 4 11 := ⟨_, _, rfl, by decide, rfl, lw_at 120 (by decide +kernel) rfl⟩
theorem fl_RX3_128 : pFl RX3 128 4 11 := ⟨_, _, rfl, by decide, rfl, lw_at 121 (by decide +kernel) rfl⟩
theorem fl_RX4_34 : pFl RX4 34 4 12 := ⟨_, _, rfl, by decide, rfl, lw_at 122 (by decide +kernel) rfl⟩
theorem fl_RX5_158 : pFl RX5 158 4 12 := ⟨_, _, rfl, by decide, rfl, lw_at 123 (by decide +kernel) rfl⟩
theorem cl_RX5_19 : Cond.classLink RX5 19 RX3 ∈ lw_ok := lw_at 152 (by decide +kernel) rfl
theorem iz_RX3 : Cond.instantiable RX3 18 ∈ lw_ok := lw_at 153 (by decide +kernel) rfl
theorem fl_RX3_31 : pFl RX3 31 3 0 := ⟨_, _, rfl, by decide, rfl, lw_at 158 (by decide +kernel) rfl⟩
theorem fl_RX5_221 : pFl RX5 221 3 0 := ⟨_, _, rfl, by decide, rfl, lw_at 159 (by decide +kernel) rfl⟩
theorem fl_RX3_42 : pFl RX3 42 3 1 := ⟨_, _, rfl, by decide, rfl, lw_at 160 (by decide +kernel) rfl⟩
theorem fl_RX5_228 : pFl RX5 228 3 1 := ⟨_, _, rfl, by decide, rfl, lw_at 161 (by decide +kernel) rfl⟩
theorem fl_RX3_35 : pFl RX3 35 3 2 := ⟨_, _, rfl, by decide, rfl, lw_at 162 (by decide +kernel) rfl⟩
theorem fl_RX5_266 : pFl RX5 266 3 2 := ⟨_, _, rfl, by decide, rfl, lw_at 163 (by decide +kernel) rfl⟩
theorem fl_RX3_39 : pFl RX3 39 3 3 := ⟨_, _, rfl, by decide, rfl, lw_at 164 (by decide +kernel) rfl⟩
theorem fl_RX3_85 : pFl RX3 85 3 4 := ⟨_, _, rfl, by decide, rfl, lw_at 165 (by decide +kernel) rfl⟩
theorem fl_RX3_89 : pFl RX3 89 3 5 := ⟨_, _, rfl, by decide, rfl, lw_at 166 (by decide +kernel) rfl⟩
theorem fl_RX3_93 : pFl RX3 93 3 6 := ⟨_, _, rfl, by decide, rfl, lw_at 167 (by decide +kernel) rfl⟩
theorem fl_RX3_97 : pFl RX3 97 3 7 := ⟨_, _, rfl, by decide, rfl, lw_at 168 (by decide +kernel) rfl⟩
theorem fl_RX3_101 : pFl RX3 101 3 8 := ⟨_, _, rfl, by decide, rfl, lw_at 169 (by decide +kernel) rfl⟩
theorem fl_RX3_105 : pFl RX3 105 3 9 := ⟨_, _, rfl, by decide, rfl, lw_at 170 (by decide +kernel) rfl⟩
theorem fl_RX3_59 : pFl RX3 59 3 10 := ⟨_, _, rfl, by decide, rfl, lw_at 171 (by decide +kernel) rfl⟩
theorem fl_RX3_106 : pFl RX3 106 3 11 := ⟨_, _, rfl, by decide, rfl, lw_at 172 (by decide +kernel) rfl⟩
theorem fl_RX3_56 : pFl RX3 56 3 12 := ⟨_, _, rfl, by decide, rfl, lw_at 173 (by decide +kernel) rfl⟩
theorem fl_RX3_9 : pFl RX3 9 3 13 := ⟨_, _, rfl, by decide, rfl, lw_at 174 (by decide +kernel) rfl⟩
theorem fl_RX3_15 : pFl RX3 15 3 14 := ⟨_, _, rfl, by decide, rfl, lw_at 175 (by decide +kernel) rfl⟩
theorem fl_RX3_18 : pFl RX3 18 3 15 := ⟨_, _, rfl, by decide, rfl, lw_at 176 (by decide +kernel) rfl⟩
theorem fl_RX3_21 : pFl RX3 21 3 16 := ⟨_, _, rfl, by decide, rfl, lw_at 177 (by decide +kernel) rfl⟩
theorem fl_RX3_24 : pFl RX3 24 3 17 := ⟨_, _, rfl, by decide, rfl, lw_at 178 (by decide +kernel) rfl⟩
theorem cl_RX5_29 : Cond.classLink RX5 29 RX1 ∈ lw_ok := lw_at 216 (by decide +kernel) rfl
theorem iz_RX1 : Cond.instantiable RX1 3 ∈ lw_ok := lw_at 217 (by decide +kernel) rfl
theorem cl_RX1_9 : Cond.classLink RX1 9 RX4 ∈ lw_ok := lw_at 222 (by decide +kernel) rfl
theorem fl_RX1_26 : pFl RX1 26 1 0 := ⟨_, _, rfl, by decide, rfl, lw_at 225 (by decide +kernel) rfl⟩
theorem fl_RX5_114 : pFl RX5 114 1 0 := ⟨_, _, rfl, by decide, rfl, lw_at 226 (by decide +kernel) rfl⟩
theorem fl_RX1_18 : pFl RX1 18 1 1 := ⟨_, _, rfl, by decide, rfl, lw_at 227 (by decide +kernel) rfl⟩
theorem fl_RX1_11 : pFl RX1 11 1 2 := ⟨_, _, rfl, by decide, rfl, lw_at 228 (by decide +kernel) rfl⟩
theorem cl_RX5_36 : Cond.classLink RX5 36 RX0 ∈ lw_ok := lw_at 236 (by decide +kernel) rfl
theorem iz_RX0 : Cond.instantiable RX0 3 ∈ lw_ok := lw_at 237 (by decide +kernel) rfl
theorem fl_RX0_19 : pFl RX0 19 0 0 := ⟨_, _, rfl, by decide, rfl, lw_at 242 (by decide +kernel) rfl⟩
theorem fl_RX5_107 : pFl RX5 107 0 0 := ⟨_, _, rfl, by decide, rfl, lw_at 243 (by decide +kernel) rfl⟩
theorem fl_RX0_9 : pFl RX0 9 0 1 := ⟨_, _, rfl, by decide, rfl, lw_at 244 (by decide +kernel) rfl⟩
theorem fl_RX0_15 : pFl RX0 15 0 2 := ⟨_, _, rfl, by decide, rfl, lw_at 245 (by decide +kernel) rfl⟩
theorem cl_RX5_43 : Cond.classLink RX5 43 RX2 ∈ lw_ok := lw_at 254 (by decide +kernel) rfl
theorem iz_RX2 : Cond.instantiable RX2 3 ∈ lw_ok := lw_at 256 (by decide +kernel) rfl
theorem cl_RX2_7 : Cond.classLink RX2 7 RX4 ∈ lw_ok := lw_at 261 (by decide +kernel) rfl
theorem fl_RX5_243 : pFl RX5 243 2 0 := ⟨_, _, rfl, by decide, rfl, lw_at 263 (by decide +kernel) rfl⟩
theorem fl_RX5_246 : pFl RX5 246 2 1 := ⟨_, _, rfl, by decide, rfl, lw_at 264 (by decide +kernel) rfl⟩
theorem fl_RX2_10 : pFl RX2 10 2 2 := ⟨_, _, rfl, by decide, rfl, lw_at 265 (by decide +kernel) rfl⟩
theorem fl_RX5_249 : pFl RX5 249 2 2 := ⟨_, _, rfl, by decide, rfl, lw_at 266 (by decide +kernel) rfl⟩
theorem fl_RX5_10 : pFl RX5 10 5 0 := ⟨_, _, rfl, by decide, rfl, lw_at 274 (by decide +kernel) rfl⟩
theorem fl_RX5_16 : pFl RX5 16 5 1 := ⟨_, _, rfl, by decide, rfl, lw_at 275 (by decide +kernel) rfl⟩
theorem fl_RX5_22 : pFl RX5 22 5 2 := ⟨_, _, rfl, by decide, rfl, lw_at 276 (by decide +kernel) rfl⟩
theorem fl_RX5_26 : pFl RX5 26 5 3 := ⟨_, _, rfl, by decide, rfl, lw_at 277 (by decide +kernel) rfl⟩
theorem fl_RX5_32 : pFl RX5 32 5 4 := ⟨_, _, rfl, by decide, rfl, lw_at 278 (by decide +kernel) rfl⟩
theorem fl_RX5_39 : pFl RX5 39 5 5 := ⟨_, _, rfl, by decide, rfl, lw_at 279 (by decide +kernel) rfl⟩
theorem fl_RX5_45 : pFl RX5 45 5 6 := ⟨_, _, rfl, by decide, rfl, lw_at 280 (by decide +kernel) rfl⟩
theorem fl_RX5_236 : pFl RX5 236 5 7 := ⟨_, _, rfl, by decide, rfl, lw_at 281 (by decide +kernel) rfl⟩
theorem fl_RX5_217 : pFl RX5 217 5 8 := ⟨_, _, rfl, by decide, rfl, lw_at 282 (by decide +kernel) rfl⟩
theorem kc_RX4_127 : Cond.constant RX4 127 (iv (1000000000)) ∈ lw_ok := lw_at 377 (by decide +kernel) rfl
theorem kc_RX5_258 : Cond.constant RX5 258 (iv (1000000000)) ∈ lw_ok := lw_at 390 (by decide +kernel) rfl
theorem kc_RX3_55 : Cond.constant RX3 55 (iv (1000000000)) ∈ lw_ok := lw_at 404 (by decide +kernel) rfl
theorem kc_RX5_117 : Cond.constant RX5 117 (iv (-1000000002)) ∈ lw_ok := lw_at 488 (by decide +kernel) rfl
theorem kc_RX5_122 : Cond.constant RX5 122 (iv (-1000000001)) ∈ lw_ok := lw_at 494 (by decide +kernel) rfl
theorem kc_RJ6_265 : Cond.constant RJ6 265 (iv (1431655765)) ∈ lw_ok := lw_at 545 (by decide +kernel) rfl
theorem kc_RJ6_266 : Cond.constant RJ6 266 (iv (858993459)) ∈ lw_ok := lw_at 546 (by decide +kernel) rfl
theorem kc_RJ6_267 : Cond.constant RJ6 267 (iv (252645135)) ∈ lw_ok := lw_at 547 (by decide +kernel) rfl
theorem kc_RX5_182 : Cond.constant RX5 182 (iv (-1000000004)) ∈ lw_ok := lw_at 567 (by decide +kernel) rfl
theorem kc_RX5_190 : Cond.constant RX5 190 (iv (-1000000003)) ∈ lw_ok := lw_at 581 (by decide +kernel) rfl
theorem kl_RX5_278 : Cond.constantLong RX5 278 (jv (1103515245)) ∈ lw_ok := lw_at 635 (by decide +kernel) rfl
theorem kl_RX5_280 : Cond.constantLong RX5 280 (jv (12345)) ∈ lw_ok := lw_at 636 (by decide +kernel) rfl
theorem kl_RX5_282 : Cond.constantLong RX5 282 (jv (2147483647)) ∈ lw_ok := lw_at 637 (by decide +kernel) rfl
theorem kc_RX5_284 : Cond.constant RX5 284 (iv (65536)) ∈ lw_ok := lw_at 638 (by decide +kernel) rfl
theorem cl_RL_10 : Cond.classLink RL 10 RX6 ∈ lw_ok := lw_at 693 (by decide +kernel) rfl
theorem iz_RX6 : Cond.instantiable RX6 14 ∈ lw_ok := lw_at 694 (by decide +kernel) rfl
theorem fl_RX6_7 : pFl RX6 7 6 0 := ⟨_, _, rfl, by decide, rfl, lw_at 703 (by decide +kernel) rfl⟩
theorem fl_RX6_13 : pFl RX6 13 6 1 := ⟨_, _, rfl, by decide, rfl, lw_at 704 (by decide +kernel) rfl⟩
theorem fl_RX6_16 : pFl RX6 16 6 2 := ⟨_, _, rfl, by decide, rfl, lw_at 705 (by decide +kernel) rfl⟩
theorem fl_RX6_39 : pFl RX6 39 6 3 := ⟨_, _, rfl, by decide, rfl, lw_at 706 (by decide +kernel) rfl⟩
theorem fl_RX6_172 : pFl RX6 172 6 4 := ⟨_, _, rfl, by decide, rfl, lw_at 707 (by decide +kernel) rfl⟩
theorem fl_RX6_108 : pFl RX6 108 6 5 := ⟨_, _, rfl, by decide, rfl, lw_at 708 (by decide +kernel) rfl⟩
theorem fl_RX6_20 : pFl RX6 20 6 6 := ⟨_, _, rfl, by decide, rfl, lw_at 709 (by decide +kernel) rfl⟩
theorem fl_RX6_23 : pFl RX6 23 6 7 := ⟨_, _, rfl, by decide, rfl, lw_at 710 (by decide +kernel) rfl⟩
theorem fl_RX6_86 : pFl RX6 86 6 8 := ⟨_, _, rfl, by decide, rfl, lw_at 711 (by decide +kernel) rfl⟩
theorem fl_RX6_89 : pFl RX6 89 6 9 := ⟨_, _, rfl, by decide, rfl, lw_at 712 (by decide +kernel) rfl⟩
theorem fl_RX6_92 : pFl RX6 92 6 10 := ⟨_, _, rfl, by decide, rfl, lw_at 713 (by decide +kernel) rfl⟩
theorem fl_RX6_26 : pFl RX6 26 6 11 := ⟨_, _, rfl, by decide, rfl, lw_at 714 (by decide +kernel) rfl⟩
theorem fl_RX6_29 : pFl RX6 29 6 12 := ⟨_, _, rfl, by decide, rfl, lw_at 715 (by decide +kernel) rfl⟩
theorem fl_RX6_32 : pFl RX6 32 6 13 := ⟨_, _, rfl, by decide, rfl, lw_at 716 (by decide +kernel) rfl⟩
theorem kc_RX6_66 : Cond.constant RX6 66 (iv (99999)) ∈ lw_ok := lw_at 778 (by decide +kernel) rfl
theorem kc_RX6_132 : Cond.constant RX6 132 (iv (-1000000002)) ∈ lw_ok := lw_at 842 (by decide +kernel) rfl
theorem kc_RX6_137 : Cond.constant RX6 137 (iv (-1000000001)) ∈ lw_ok := lw_at 851 (by decide +kernel) rfl
theorem kl_RX6_147 : Cond.constantLong RX6 147 (jv (3)) ∈ lw_ok := lw_at 876 (by decide +kernel) rfl
theorem kl_RX6_155 : Cond.constantLong RX6 155 (jv (99)) ∈ lw_ok := lw_at 888 (by decide +kernel) rfl
theorem kl_RX6_157 : Cond.constantLong RX6 157 (jv (4)) ∈ lw_ok := lw_at 889 (by decide +kernel) rfl
theorem kc_RX6_159 : Cond.constant RX6 159 (iv (-1000000004)) ∈ lw_ok := lw_at 890 (by decide +kernel) rfl
theorem kl_RX6_163 : Cond.constantLong RX6 163 (jv (-99)) ∈ lw_ok := lw_at 899 (by decide +kernel) rfl
theorem kc_RX6_165 : Cond.constant RX6 165 (iv (-1000000003)) ∈ lw_ok := lw_at 900 (by decide +kernel) rfl
theorem kl_RX6_166 : Cond.constantLong RX6 166 (jv (40)) ∈ lw_ok := lw_at 913 (by decide +kernel) rfl
theorem kl_RX6_168 : Cond.constantLong RX6 168 (jv (2)) ∈ lw_ok := lw_at 914 (by decide +kernel) rfl
theorem kl_RX6_170 : Cond.constantLong RX6 170 (jv (9)) ∈ lw_ok := lw_at 915 (by decide +kernel) rfl
theorem kl_RX6_185 : Cond.constantLong RX6 185 (jv (20)) ∈ lw_ok := lw_at 932 (by decide +kernel) rfl
theorem kl_RX6_175 : Cond.constantLong RX6 175 (jv (1103515245)) ∈ lw_ok := lw_at 941 (by decide +kernel) rfl
theorem kl_RX6_177 : Cond.constantLong RX6 177 (jv (12345)) ∈ lw_ok := lw_at 942 (by decide +kernel) rfl
theorem kl_RX6_179 : Cond.constantLong RX6 179 (jv (2147483648)) ∈ lw_ok := lw_at 943 (by decide +kernel) rfl
theorem kc_RX6_181 : Cond.constant RX6 181 (iv (65536)) ∈ lw_ok := lw_at 944 (by decide +kernel) rfl
theorem it_RL : Cond.initialized RL ∈ lw_ok := lw_at 53 (by decide +kernel) rfl
theorem it_RX5 : Cond.initialized RX5 ∈ lw_ok := lw_at 54 (by decide +kernel) rfl
theorem it_RX4 : Cond.initialized RX4 ∈ lw_ok := lw_at 55 (by decide +kernel) rfl
theorem it_RJ9 : Cond.initialized RJ9 ∈ lw_ok := lw_at 56 (by decide +kernel) rfl
theorem it_RX3 : Cond.initialized RX3 ∈ lw_ok := lw_at 57 (by decide +kernel) rfl
theorem it_RX1 : Cond.initialized RX1 ∈ lw_ok := lw_at 58 (by decide +kernel) rfl
theorem it_RX0 : Cond.initialized RX0 ∈ lw_ok := lw_at 59 (by decide +kernel) rfl
theorem it_RX2 : Cond.initialized RX2 ∈ lw_ok := lw_at 60 (by decide +kernel) rfl
theorem it_RX6 : Cond.initialized RX6 ∈ lw_ok := lw_at 61 (by decide +kernel) rfl
theorem it_RJ6 : Cond.initialized RJ6 ∈ lw_ok := lw_at 62 (by decide +kernel) rfl
theorem cd_X5_init : Cond.code yX5_init cX5_init 2 none ∈ lw_ok := lw_at 67 (by decide +kernel) rfl
theorem bd_X5_init : pBd yX5_init = (164, 1630) := by decide +kernel
theorem pp_X5_init : pPar yX5_init 0 := ⟨by decide +kernel, by decide +kernel, by decide +kernel⟩
theorem im_X5_init : Cond.instanceMethod yX5_init ∈ lw_ok := lw_at 66 (by decide +kernel) rfl
theorem cd_X4_init : Cond.code yX4_init cX4_init 1 none ∈ lw_ok := lw_at 75 (by decide +kernel) rfl
theorem bd_X4_init : pBd yX4_init = (5, 45) := by decide +kernel
theorem pp_X4_init : pPar yX4_init 0 := ⟨by decide +kernel, by decide +kernel, by decide +kernel⟩
theorem im_X4_init : Cond.instanceMethod yX4_init ∈ lw_ok := lw_at 74 (by decide +kernel) rfl
theorem cd_X4_raise : Cond.code yX4_raise cX4_raise 3 none ∈ lw_ok := lw_at 80 (by decide +kernel) rfl
theorem bd_X4_raise : pBd yX4_raise = (0, 0) := by decide +kernel
theorem pp_X4_raise : pPar yX4_raise 2 := ⟨by decide +kernel, by decide +kernel, by decide +kernel⟩
theorem im_X4_raise : Cond.instanceMethod yX4_raise ∈ lw_ok := lw_at 78 (by decide +kernel) rfl
theorem se_X4_raise : Cond.selects RX4 yX4_raise yX4_raise ∈ lw_ok := lw_at 79 (by decide +kernel) rfl
theorem cd_J9_min_7cf53 : Cond.code yJ9_min_7cf53 cJ9_min_7cf53 2 (some .int) ∈ lw_ok := lw_at 83 (by decide +kernel) rfl
theorem bd_J9_min_7cf53 : pBd yJ9_min_7cf53 = (0, 0) := by decide +kernel
theorem pp_J9_min_7cf53 : pPar yJ9_min_7cf53 2 := ⟨by decide +kernel, by decide +kernel, by decide +kernel⟩
theorem sm_J9_min_7cf53 : Cond.static yJ9_min_7cf53 ∈ lw_ok := lw_at 82 (by decide +kernel) rfl
theorem cd_X5_fillRow : Cond.code yX5_fillRow cX5_fillRow 3 none ∈ lw_ok := lw_at 86 (by decide +kernel) rfl
theorem bd_X5_fillRow : pBd yX5_fillRow = (0, 0) := by decide +kernel
theorem pp_X5_fillRow : pPar yX5_fillRow 2 := ⟨by decide +kernel, by decide +kernel, by decide +kernel⟩
theorem sm_X5_fillRow : Cond.static yX5_fillRow ∈ lw_ok := lw_at 85 (by decide +kernel) rfl
theorem cd_X3_init : Cond.code yX3_init cX3_init 1 none ∈ lw_ok := lw_at 156 (by decide +kernel) rfl
theorem bd_X3_init : pBd yX3_init = (5, 64) := by decide +kernel
theorem pp_X3_init : pPar yX3_init 0 := ⟨by decide +kernel, by decide +kernel, by decide +kernel⟩
theorem im_X3_init : Cond.instanceMethod yX3_init ∈ lw_ok := lw_at 155 (by decide +kernel) rfl
theorem cd_X1_init : Cond.code yX1_init cX1_init 2 none ∈ lw_ok := lw_at 220 (by decide +kernel) rfl
theorem bd_X1_init : pBd yX1_init = (121, 1180) := by decide +kernel
theorem pp_X1_init : pPar yX1_init 0 := ⟨by decide +kernel, by decide +kernel, by decide +kernel⟩
theorem im_X1_init : Cond.instanceMethod yX1_init ∈ lw_ok := lw_at 219 (by decide +kernel) rfl
theorem cd_X0_init : Cond.code yX0_init cX0_init 1 none ∈ lw_ok := lw_at 240 (by decide +kernel) rfl
theorem bd_X0_init : pBd yX0_init = (2, 40) := by decide +kernel
theorem pp_X0_init : pPar yX0_init 0 := ⟨by decide +kernel, by decide +kernel, by decide +kernel⟩
theorem im_X0_init : Cond.instanceMethod yX0_init ∈ lw_ok := lw_at 239 (by decide +kernel) rfl
theorem cd_X2_init : Cond.code yX2_init cX2_init 1 none ∈ lw_ok := lw_at 259 (by decide +kernel) rfl
theorem bd_X2_init : pBd yX2_init = (6, 58) := by decide +kernel
theorem pp_X2_init : pPar yX2_init 0 := ⟨by decide +kernel, by decide +kernel, by decide +kernel⟩
theorem im_X2_init : Cond.instanceMethod yX2_init ∈ lw_ok := lw_at 258 (by decide +kernel) rfl
theorem cd_X5_told : Cond.code yX5_told cX5_told 2 (some .int) ∈ lw_ok := lw_at 305 (by decide +kernel) rfl
theorem bd_X5_told : pBd yX5_told = (0, 0) := by decide +kernel
theorem pp_X5_told : pPar yX5_told 1 := ⟨by decide +kernel, by decide +kernel, by decide +kernel⟩
theorem im_X5_told : Cond.instanceMethod yX5_told ∈ lw_ok := lw_at 303 (by decide +kernel) rfl
theorem se_X5_told : Cond.selects RX5 yX5_told yX5_told ∈ lw_ok := lw_at 304 (by decide +kernel) rfl
theorem cd_X4_stock : Cond.code yX4_stock cX4_stock 1 (some .int) ∈ lw_ok := lw_at 309 (by decide +kernel) rfl
theorem bd_X4_stock : pBd yX4_stock = (0, 0) := by decide +kernel
theorem pp_X4_stock : pPar yX4_stock 0 := ⟨by decide +kernel, by decide +kernel, by decide +kernel⟩
theorem im_X4_stock : Cond.instanceMethod yX4_stock ∈ lw_ok := lw_at 307 (by decide +kernel) rfl
theorem se_X4_stock : Cond.selects RX4 yX4_stock yX4_stock ∈ lw_ok := lw_at 308 (by decide +kernel) rfl
theorem cd_X4_broughtBy : Cond.code yX4_broughtBy cX4_broughtBy 4 (some .int) ∈ lw_ok := lw_at 313 (by decide +kernel) rfl
theorem bd_X4_broughtBy : pBd yX4_broughtBy = (0, 0) := by decide +kernel
theorem pp_X4_broughtBy : pPar yX4_broughtBy 1 := ⟨by decide +kernel, by decide +kernel, by decide +kernel⟩
theorem im_X4_broughtBy : Cond.instanceMethod yX4_broughtBy ∈ lw_ok := lw_at 311 (by decide +kernel) rfl
theorem se_X4_broughtBy : Cond.selects RX4 yX4_broughtBy yX4_broughtBy ∈ lw_ok := lw_at 312 (by decide +kernel) rfl
theorem cd_X4_usedLoads : Cond.code yX4_usedLoads cX4_usedLoads 3 (some .int) ∈ lw_ok := lw_at 317 (by decide +kernel) rfl
theorem bd_X4_usedLoads : pBd yX4_usedLoads = (0, 0) := by decide +kernel
theorem pp_X4_usedLoads : pPar yX4_usedLoads 0 := ⟨by decide +kernel, by decide +kernel, by decide +kernel⟩
theorem im_X4_usedLoads : Cond.instanceMethod yX4_usedLoads ∈ lw_ok := lw_at 315 (by decide +kernel) rfl
theorem se_X4_usedLoads : Cond.selects RX4 yX4_usedLoads yX4_usedLoads ∈ lw_ok := lw_at 316 (by decide +kernel) rfl
theorem cd_X4_isPoured : Cond.code yX4_isPoured cX4_isPoured 2 (some .boolean) ∈ lw_ok := lw_at 321 (by decide +kernel) rfl
theorem bd_X4_isPoured : pBd yX4_isPoured = (0, 0) := by decide +kernel
theorem pp_X4_isPoured : pPar yX4_isPoured 1 := ⟨by decide +kernel, by decide +kernel, by decide +kernel⟩
theorem im_X4_isPoured : Cond.instanceMethod yX4_isPoured ∈ lw_ok := lw_at 319 (by decide +kernel) rfl
theorem se_X4_isPoured : Cond.selects RX4 yX4_isPoured yX4_isPoured ∈ lw_ok := lw_at 320 (by decide +kernel) rfl
theorem cd_X4_pouredSet : Cond.code yX4_pouredSet cX4_pouredSet 3 (some .int) ∈ lw_ok := lw_at 325 (by decide +kernel) rfl
theorem bd_X4_pouredSet : pBd yX4_pouredSet = (0, 0) := by decide +kernel
theorem pp_X4_pouredSet : pPar yX4_pouredSet 0 := ⟨by decide +kernel, by decide +kernel, by decide +kernel⟩
theorem im_X4_pouredSet : Cond.instanceMethod yX4_pouredSet ∈ lw_ok := lw_at 323 (by decide +kernel) rfl
theorem se_X4_pouredSet : Cond.selects RX4 yX4_pouredSet yX4_pouredSet ∈ lw_ok := lw_at 324 (by decide +kernel) rfl
theorem cd_X4_canSet : Cond.code yX4_canSet cX4_canSet 3 (some .int) ∈ lw_ok := lw_at 329 (by decide +kernel) rfl
theorem bd_X4_canSet : pBd yX4_canSet = (0, 0) := by decide +kernel
theorem pp_X4_canSet : pPar yX4_canSet 0 := ⟨by decide +kernel, by decide +kernel, by decide +kernel⟩
theorem im_X4_canSet : Cond.instanceMethod yX4_canSet ∈ lw_ok := lw_at 327 (by decide +kernel) rfl
theorem se_X4_canSet : Cond.selects RX4 yX4_canSet yX4_canSet ∈ lw_ok := lw_at 328 (by decide +kernel) rfl
theorem cd_X4_startOf : Cond.code yX4_startOf cX4_startOf 3 (some .int) ∈ lw_ok := lw_at 333 (by decide +kernel) rfl
theorem bd_X4_startOf : pBd yX4_startOf = (0, 0) := by decide +kernel
theorem pp_X4_startOf : pPar yX4_startOf 1 := ⟨by decide +kernel, by decide +kernel, by decide +kernel⟩
theorem im_X4_startOf : Cond.instanceMethod yX4_startOf ∈ lw_ok := lw_at 331 (by decide +kernel) rfl
theorem se_X4_startOf : Cond.selects RX4 yX4_startOf yX4_startOf ∈ lw_ok := lw_at 332 (by decide +kernel) rfl
theorem cd_X4_isCell : Cond.code yX4_isCell cX4_isCell 2 (some .boolean) ∈ lw_ok := lw_at 337 (by decide +kernel) rfl
theorem bd_X4_isCell : pBd yX4_isCell = (0, 0) := by decide +kernel
theorem pp_X4_isCell : pPar yX4_isCell 1 := ⟨by decide +kernel, by decide +kernel, by decide +kernel⟩
theorem im_X4_isCell : Cond.instanceMethod yX4_isCell ∈ lw_ok := lw_at 335 (by decide +kernel) rfl
theorem se_X4_isCell : Cond.selects RX4 yX4_isCell yX4_isCell ∈ lw_ok := lw_at 336 (by decide +kernel) rfl
theorem cd_X4_broughtAt : Cond.code yX4_broughtAt cX4_broughtAt 5 (some .int) ∈ lw_ok := lw_at 341 (by decide +kernel) rfl
theorem bd_X4_broughtAt : pBd yX4_broughtAt = (0, 0) := by decide +kernel
theorem pp_X4_broughtAt : pPar yX4_broughtAt 1 := ⟨by decide +kernel, by decide +kernel, by decide +kernel⟩
theorem im_X4_broughtAt : Cond.instanceMethod yX4_broughtAt ∈ lw_ok := lw_at 339 (by decide +kernel) rfl
theorem se_X4_broughtAt : Cond.selects RX4 yX4_broughtAt yX4_broughtAt ∈ lw_ok := lw_at 340 (by decide +kernel) rfl
theorem cd_J9_max_7cf53 : Cond.code yJ9_max_7cf53 cJ9_max_7cf53 2 (some .int) ∈ lw_ok := lw_at 344 (by decide +kernel) rfl
theorem bd_J9_max_7cf53 : pBd yJ9_max_7cf53 = (0, 0) := by decide +kernel
theorem pp_J9_max_7cf53 : pPar yJ9_max_7cf53 2 := ⟨by decide +kernel, by decide +kernel, by decide +kernel⟩
theorem sm_J9_max_7cf53 : Cond.static yJ9_max_7cf53 ∈ lw_ok := lw_at 343 (by decide +kernel) rfl
theorem cd_X4_joints : Cond.code yX4_joints cX4_joints 3 (some .int) ∈ lw_ok := lw_at 348 (by decide +kernel) rfl
theorem bd_X4_joints : pBd yX4_joints = (0, 0) := by decide +kernel
theorem pp_X4_joints : pPar yX4_joints 0 := ⟨by decide +kernel, by decide +kernel, by decide +kernel⟩
theorem im_X4_joints : Cond.instanceMethod yX4_joints ∈ lw_ok := lw_at 346 (by decide +kernel) rfl
theorem se_X4_joints : Cond.selects RX4 yX4_joints yX4_joints ∈ lw_ok := lw_at 347 (by decide +kernel) rfl
theorem cd_X4_edges : Cond.code yX4_edges cX4_edges 1 (some .int) ∈ lw_ok := lw_at 352 (by decide +kernel) rfl
theorem bd_X4_edges : pBd yX4_edges = (0, 0) := by decide +kernel
theorem pp_X4_edges : pPar yX4_edges 0 := ⟨by decide +kernel, by decide +kernel, by decide +kernel⟩
theorem im_X4_edges : Cond.instanceMethod yX4_edges ∈ lw_ok := lw_at 350 (by decide +kernel) rfl
theorem se_X4_edges : Cond.selects RX4 yX4_edges yX4_edges ∈ lw_ok := lw_at 351 (by decide +kernel) rfl
theorem cd_X4_isJoint : Cond.code yX4_isJoint cX4_isJoint 2 (some .boolean) ∈ lw_ok := lw_at 356 (by decide +kernel) rfl
theorem bd_X4_isJoint : pBd yX4_isJoint = (0, 0) := by decide +kernel
theorem pp_X4_isJoint : pPar yX4_isJoint 1 := ⟨by decide +kernel, by decide +kernel, by decide +kernel⟩
theorem im_X4_isJoint : Cond.instanceMethod yX4_isJoint ∈ lw_ok := lw_at 354 (by decide +kernel) rfl
theorem se_X4_isJoint : Cond.selects RX4 yX4_isJoint yX4_isJoint ∈ lw_ok := lw_at 355 (by decide +kernel) rfl
theorem cd_X4_ageOf : Cond.code yX4_ageOf cX4_ageOf 5 (some .int) ∈ lw_ok := lw_at 360 (by decide +kernel) rfl
theorem bd_X4_ageOf : pBd yX4_ageOf = (0, 0) := by decide +kernel
theorem pp_X4_ageOf : pPar yX4_ageOf 1 := ⟨by decide +kernel, by decide +kernel, by decide +kernel⟩
theorem im_X4_ageOf : Cond.instanceMethod yX4_ageOf ∈ lw_ok := lw_at 358 (by decide +kernel) rfl
theorem se_X4_ageOf : Cond.selects RX4 yX4_ageOf yX4_ageOf ∈ lw_ok := lw_at 359 (by decide +kernel) rfl
theorem cd_X4_across : Cond.code yX4_across cX4_across 4 (some .int) ∈ lw_ok := lw_at 364 (by decide +kernel) rfl
theorem bd_X4_across : pBd yX4_across = (0, 0) := by decide +kernel
theorem pp_X4_across : pPar yX4_across 1 := ⟨by decide +kernel, by decide +kernel, by decide +kernel⟩
theorem im_X4_across : Cond.instanceMethod yX4_across ∈ lw_ok := lw_at 362 (by decide +kernel) rfl
theorem se_X4_across : Cond.selects RX4 yX4_across yX4_across ∈ lw_ok := lw_at 363 (by decide +kernel) rfl
theorem cd_X4_harm : Cond.code yX4_harm cX4_harm 3 (some .int) ∈ lw_ok := lw_at 368 (by decide +kernel) rfl
theorem bd_X4_harm : pBd yX4_harm = (0, 0) := by decide +kernel
theorem pp_X4_harm : pPar yX4_harm 0 := ⟨by decide +kernel, by decide +kernel, by decide +kernel⟩
theorem im_X4_harm : Cond.instanceMethod yX4_harm ∈ lw_ok := lw_at 366 (by decide +kernel) rfl
theorem se_X4_harm : Cond.selects RX4 yX4_harm yX4_harm ∈ lw_ok := lw_at 367 (by decide +kernel) rfl
theorem cd_X4_harmOf : Cond.code yX4_harmOf cX4_harmOf 2 (some .int) ∈ lw_ok := lw_at 372 (by decide +kernel) rfl
theorem bd_X4_harmOf : pBd yX4_harmOf = (0, 0) := by decide +kernel
theorem pp_X4_harmOf : pPar yX4_harmOf 1 := ⟨by decide +kernel, by decide +kernel, by decide +kernel⟩
theorem im_X4_harmOf : Cond.instanceMethod yX4_harmOf ∈ lw_ok := lw_at 370 (by decide +kernel) rfl
theorem se_X4_harmOf : Cond.selects RX4 yX4_harmOf yX4_harmOf ∈ lw_ok := lw_at 371 (by decide +kernel) rfl
theorem cd_X4_firstToSet : Cond.code yX4_firstToSet cX4_firstToSet 5 (some .int) ∈ lw_ok := lw_at 376 (by decide +kernel) rfl
theorem bd_X4_firstToSet : pBd yX4_firstToSet = (0, 0) := by decide +kernel
theorem pp_X4_firstToSet : pPar yX4_firstToSet 0 := ⟨by decide +kernel, by decide +kernel, by decide +kernel⟩
theorem im_X4_firstToSet : Cond.instanceMethod yX4_firstToSet ∈ lw_ok := lw_at 374 (by decide +kernel) rfl
theorem se_X4_firstToSet : Cond.selects RX4 yX4_firstToSet yX4_firstToSet ∈ lw_ok := lw_at 375 (by decide +kernel) rfl
theorem cd_X4_timeLeft : Cond.code yX4_timeLeft cX4_timeLeft 2 (some .int) ∈ lw_ok := lw_at 381 (by decide +kernel) rfl
theorem bd_X4_timeLeft : pBd yX4_timeLeft = (0, 0) := by decide +kernel
theorem pp_X4_timeLeft : pPar yX4_timeLeft 1 := ⟨by decide +kernel, by decide +kernel, by decide +kernel⟩
theorem im_X4_timeLeft : Cond.instanceMethod yX4_timeLeft ∈ lw_ok := lw_at 379 (by decide +kernel) rfl
theorem se_X4_timeLeft : Cond.selects RX4 yX4_timeLeft yX4_timeLeft ∈ lw_ok := lw_at 380 (by decide +kernel) rfl
theorem cd_X4_isOpen : Cond.code yX4_isOpen cX4_isOpen 3 (some .boolean) ∈ lw_ok := lw_at 385 (by decide +kernel) rfl
theorem bd_X4_isOpen : pBd yX4_isOpen = (0, 0) := by decide +kernel
theorem pp_X4_isOpen : pPar yX4_isOpen 1 := ⟨by decide +kernel, by decide +kernel, by decide +kernel⟩
theorem im_X4_isOpen : Cond.instanceMethod yX4_isOpen ∈ lw_ok := lw_at 383 (by decide +kernel) rfl
theorem se_X4_isOpen : Cond.selects RX4 yX4_isOpen yX4_isOpen ∈ lw_ok := lw_at 384 (by decide +kernel) rfl
theorem cd_X5_plan : Cond.code yX5_plan cX5_plan 1 (some (.object "PourPlan$Planner")) ∈ lw_ok := lw_at 389 (by decide +kernel) rfl
theorem bd_X5_plan : pBd yX5_plan = (0, 0) := by decide +kernel
theorem pp_X5_plan : pPar yX5_plan 0 := ⟨by decide +kernel, by decide +kernel, by decide +kernel⟩
theorem im_X5_plan : Cond.instanceMethod yX5_plan ∈ lw_ok := lw_at 388 (by decide +kernel) rfl
theorem se_X5_plan : Cond.selects RX5 yX5_plan yX5_plan ∈ lw_ok := lw_at 0 (by decide +kernel) rfl
theorem cd_X3_search : Cond.code yX3_search cX3_search 4 none ∈ lw_ok := lw_at 394 (by decide +kernel) rfl
theorem bd_X3_search : pBd yX3_search = (0, 0) := by decide +kernel
theorem pp_X3_search : pPar yX3_search 3 := ⟨by decide +kernel, by decide +kernel, by decide +kernel⟩
theorem im_X3_search : Cond.instanceMethod yX3_search ∈ lw_ok := lw_at 392 (by decide +kernel) rfl
theorem se_X3_search : Cond.selects RX3 yX3_search yX3_search ∈ lw_ok := lw_at 393 (by decide +kernel) rfl
theorem cd_X3_readWall : Cond.code yX3_readWall cX3_readWall 2 none ∈ lw_ok := lw_at 398 (by decide +kernel) rfl
theorem bd_X3_readWall : pBd yX3_readWall = (0, 0) := by decide +kernel
theorem pp_X3_readWall : pPar yX3_readWall 1 := ⟨by decide +kernel, by decide +kernel, by decide +kernel⟩
theorem im_X3_readWall : Cond.instanceMethod yX3_readWall ∈ lw_ok := lw_at 397 (by decide +kernel) rfl
theorem se_X3_readWall : Cond.selects RX3 yX3_readWall yX3_readWall ∈ lw_ok := lw_at 1 (by decide +kernel) rfl
theorem cd_X3_readCells : Cond.code yX3_readCells cX3_readCells 3 none ∈ lw_ok := lw_at 402 (by decide +kernel) rfl
theorem bd_X3_readCells : pBd yX3_readCells = (0, 0) := by decide +kernel
theorem pp_X3_readCells : pPar yX3_readCells 1 := ⟨by decide +kernel, by decide +kernel, by decide +kernel⟩
theorem im_X3_readCells : Cond.instanceMethod yX3_readCells ∈ lw_ok := lw_at 401 (by decide +kernel) rfl
theorem se_X3_readCells : Cond.selects RX3 yX3_readCells yX3_readCells ∈ lw_ok := lw_at 2 (by decide +kernel) rfl
theorem cd_X3_readArrivals : Cond.code yX3_readArrivals cX3_readArrivals 6 none ∈ lw_ok := lw_at 409 (by decide +kernel) rfl
theorem bd_X3_readArrivals : pBd yX3_readArrivals = (0, 0) := by decide +kernel
theorem pp_X3_readArrivals : pPar yX3_readArrivals 1 := ⟨by decide +kernel, by decide +kernel, by decide +kernel⟩
theorem im_X3_readArrivals : Cond.instanceMethod yX3_readArrivals ∈ lw_ok := lw_at 408 (by decide +kernel) rfl
theorem se_X3_readArrivals : Cond.selects RX3 yX3_readArrivals yX3_readArrivals ∈ lw_ok := lw_at 3 (by decide +kernel) rfl
theorem cd_X3_arrivalOf : Cond.code yX3_arrivalOf cX3_arrivalOf 2 (some .int) ∈ lw_ok := lw_at 415 (by decide +kernel) rfl
theorem bd_X3_arrivalOf : pBd yX3_arrivalOf = (0, 0) := by decide +kernel
theorem pp_X3_arrivalOf : pPar yX3_arrivalOf 1 := ⟨by decide +kernel, by decide +kernel, by decide +kernel⟩
theorem im_X3_arrivalOf : Cond.instanceMethod yX3_arrivalOf ∈ lw_ok := lw_at 414 (by decide +kernel) rfl
theorem se_X3_arrivalOf : Cond.selects RX3 yX3_arrivalOf yX3_arrivalOf ∈ lw_ok := lw_at 4 (by decide +kernel) rfl
theorem cd_X3_harmCovered : Cond.code yX3_harmCovered cX3_harmCovered 3 (some .int) ∈ lw_ok := lw_at 419 (by decide +kernel) rfl
theorem bd_X3_harmCovered : pBd yX3_harmCovered = (0, 0) := by decide +kernel
theorem pp_X3_harmCovered : pPar yX3_harmCovered 0 := ⟨by decide +kernel, by decide +kernel, by decide +kernel⟩
theorem im_X3_harmCovered : Cond.instanceMethod yX3_harmCovered ∈ lw_ok := lw_at 418 (by decide +kernel) rfl
theorem se_X3_harmCovered : Cond.selects RX3 yX3_harmCovered yX3_harmCovered ∈ lw_ok := lw_at 5 (by decide +kernel) rfl
theorem cd_X3_harmCovering : Cond.code yX3_harmCovering cX3_harmCovering 6 (some .int) ∈ lw_ok := lw_at 423 (by decide +kernel) rfl
theorem bd_X3_harmCovering : pBd yX3_harmCovering = (0, 0) := by decide +kernel
theorem pp_X3_harmCovering : pPar yX3_harmCovering 2 := ⟨by decide +kernel, by decide +kernel, by decide +kernel⟩
theorem im_X3_harmCovering : Cond.instanceMethod yX3_harmCovering ∈ lw_ok := lw_at 422 (by decide +kernel) rfl
theorem se_X3_harmCovering : Cond.selects RX3 yX3_harmCovering yX3_harmCovering ∈ lw_ok := lw_at 6 (by decide +kernel) rfl
theorem cd_X3_extend : Cond.code yX3_extend cX3_extend 10 none ∈ lw_ok := lw_at 428 (by decide +kernel) rfl
theorem bd_X3_extend : pBd yX3_extend = (0, 0) := by decide +kernel
theorem pp_X3_extend : pPar yX3_extend 4 := ⟨by decide +kernel, by decide +kernel, by decide +kernel⟩
theorem im_X3_extend : Cond.instanceMethod yX3_extend ∈ lw_ok := lw_at 427 (by decide +kernel) rfl
theorem se_X3_extend : Cond.selects RX3 yX3_extend yX3_extend ∈ lw_ok := lw_at 7 (by decide +kernel) rfl
theorem cd_X3_take : Cond.code yX3_take cX3_take 3 none ∈ lw_ok := lw_at 432 (by decide +kernel) rfl
theorem bd_X3_take : pBd yX3_take = (0, 0) := by decide +kernel
theorem pp_X3_take : pPar yX3_take 2 := ⟨by decide +kernel, by decide +kernel, by decide +kernel⟩
theorem im_X3_take : Cond.instanceMethod yX3_take ∈ lw_ok := lw_at 431 (by decide +kernel) rfl
theorem se_X3_take : Cond.selects RX3 yX3_take yX3_take ∈ lw_ok := lw_at 8 (by decide +kernel) rfl
theorem cd_X3_mayBeBetter : Cond.code yX3_mayBeBetter cX3_mayBeBetter 3 (some .boolean) ∈ lw_ok := lw_at 436 (by decide +kernel) rfl
theorem bd_X3_mayBeBetter : pBd yX3_mayBeBetter = (0, 0) := by decide +kernel
theorem pp_X3_mayBeBetter : pPar yX3_mayBeBetter 2 := ⟨by decide +kernel, by decide +kernel, by decide +kernel⟩
theorem im_X3_mayBeBetter : Cond.instanceMethod yX3_mayBeBetter ∈ lw_ok := lw_at 435 (by decide +kernel) rfl
theorem se_X3_mayBeBetter : Cond.selects RX3 yX3_mayBeBetter yX3_mayBeBetter ∈ lw_ok := lw_at 9 (by decide +kernel) rfl
theorem cd_X5_copyRow : Cond.code yX5_copyRow cX5_copyRow 3 none ∈ lw_ok := lw_at 439 (by decide +kernel) rfl
theorem bd_X5_copyRow : pBd yX5_copyRow = (0, 0) := by decide +kernel
theorem pp_X5_copyRow : pPar yX5_copyRow 2 := ⟨by decide +kernel, by decide +kernel, by decide +kernel⟩
theorem sm_X5_copyRow : Cond.static yX5_copyRow ∈ lw_ok := lw_at 438 (by decide +kernel) rfl
theorem cd_X3_isNext : Cond.code yX3_isNext cX3_isNext 2 (some .boolean) ∈ lw_ok := lw_at 443 (by decide +kernel) rfl
theorem bd_X3_isNext : pBd yX3_isNext = (0, 0) := by decide +kernel
theorem pp_X3_isNext : pPar yX3_isNext 1 := ⟨by decide +kernel, by decide +kernel, by decide +kernel⟩
theorem im_X3_isNext : Cond.instanceMethod yX3_isNext ∈ lw_ok := lw_at 442 (by decide +kernel) rfl
theorem se_X3_isNext : Cond.selects RX3 yX3_isNext yX3_isNext ∈ lw_ok := lw_at 10 (by decide +kernel) rfl
theorem cd_X3_harmToCome : Cond.code yX3_harmToCome cX3_harmToCome 9 (some .int) ∈ lw_ok := lw_at 448 (by decide +kernel) rfl
theorem bd_X3_harmToCome : pBd yX3_harmToCome = (0, 0) := by decide +kernel
theorem pp_X3_harmToCome : pPar yX3_harmToCome 2 := ⟨by decide +kernel, by decide +kernel, by decide +kernel⟩
theorem im_X3_harmToCome : Cond.instanceMethod yX3_harmToCome ∈ lw_ok := lw_at 447 (by decide +kernel) rfl
theorem se_X3_harmToCome : Cond.selects RX3 yX3_harmToCome yX3_harmToCome ∈ lw_ok := lw_at 11 (by decide +kernel) rfl
theorem cd_X3_leastEnd : Cond.code yX3_leastEnd cX3_leastEnd 4 (some .int) ∈ lw_ok := lw_at 452 (by decide +kernel) rfl
theorem bd_X3_leastEnd : pBd yX3_leastEnd = (0, 0) := by decide +kernel
theorem pp_X3_leastEnd : pPar yX3_leastEnd 2 := ⟨by decide +kernel, by decide +kernel, by decide +kernel⟩
theorem im_X3_leastEnd : Cond.instanceMethod yX3_leastEnd ∈ lw_ok := lw_at 451 (by decide +kernel) rfl
theorem se_X3_leastEnd : Cond.selects RX3 yX3_leastEnd yX3_leastEnd ∈ lw_ok := lw_at 12 (by decide +kernel) rfl
theorem cd_X3_leastHarm : Cond.code yX3_leastHarm cX3_leastHarm 1 (some .int) ∈ lw_ok := lw_at 456 (by decide +kernel) rfl
theorem bd_X3_leastHarm : pBd yX3_leastHarm = (0, 0) := by decide +kernel
theorem pp_X3_leastHarm : pPar yX3_leastHarm 0 := ⟨by decide +kernel, by decide +kernel, by decide +kernel⟩
theorem im_X3_leastHarm : Cond.instanceMethod yX3_leastHarm ∈ lw_ok := lw_at 454 (by decide +kernel) rfl
theorem se_X3_leastHarm : Cond.selects RX3 yX3_leastHarm yX3_leastHarm ∈ lw_ok := lw_at 455 (by decide +kernel) rfl
theorem cd_X3_earliestEnd : Cond.code yX3_earliestEnd cX3_earliestEnd 1 (some .int) ∈ lw_ok := lw_at 460 (by decide +kernel) rfl
theorem bd_X3_earliestEnd : pBd yX3_earliestEnd = (0, 0) := by decide +kernel
theorem pp_X3_earliestEnd : pPar yX3_earliestEnd 0 := ⟨by decide +kernel, by decide +kernel, by decide +kernel⟩
theorem im_X3_earliestEnd : Cond.instanceMethod yX3_earliestEnd ∈ lw_ok := lw_at 458 (by decide +kernel) rfl
theorem se_X3_earliestEnd : Cond.selects RX3 yX3_earliestEnd yX3_earliestEnd ∈ lw_ok := lw_at 459 (by decide +kernel) rfl
theorem cd_X5_mayWait : Cond.code yX5_mayWait cX5_mayWait 3 (some .int) ∈ lw_ok := lw_at 464 (by decide +kernel) rfl
theorem bd_X5_mayWait : pBd yX5_mayWait = (0, 0) := by decide +kernel
theorem pp_X5_mayWait : pPar yX5_mayWait 0 := ⟨by decide +kernel, by decide +kernel, by decide +kernel⟩
theorem im_X5_mayWait : Cond.instanceMethod yX5_mayWait ∈ lw_ok := lw_at 463 (by decide +kernel) rfl
theorem se_X5_mayWait : Cond.selects RX5 yX5_mayWait yX5_mayWait ∈ lw_ok := lw_at 13 (by decide +kernel) rfl
theorem cd_X4_copyFrom : Cond.code yX4_copyFrom cX4_copyFrom 2 none ∈ lw_ok := lw_at 468 (by decide +kernel) rfl
theorem bd_X4_copyFrom : pBd yX4_copyFrom = (0, 0) := by decide +kernel
theorem pp_X4_copyFrom : pPar yX4_copyFrom 1 := ⟨by decide +kernel, by decide +kernel, by decide +kernel⟩
theorem im_X4_copyFrom : Cond.instanceMethod yX4_copyFrom ∈ lw_ok := lw_at 466 (by decide +kernel) rfl
theorem se_X4_copyFrom : Cond.selects RX4 yX4_copyFrom yX4_copyFrom ∈ lw_ok := lw_at 467 (by decide +kernel) rfl
theorem cd_X3_leastHarmIs : Cond.code yX3_leastHarmIs cX3_leastHarmIs 3 (some .boolean) ∈ lw_ok := lw_at 473 (by decide +kernel) rfl
theorem bd_X3_leastHarmIs : pBd yX3_leastHarmIs = (0, 0) := by decide +kernel
theorem pp_X3_leastHarmIs : pPar yX3_leastHarmIs 2 := ⟨by decide +kernel, by decide +kernel, by decide +kernel⟩
theorem im_X3_leastHarmIs : Cond.instanceMethod yX3_leastHarmIs ∈ lw_ok := lw_at 471 (by decide +kernel) rfl
theorem se_X3_leastHarmIs : Cond.selects RX3 yX3_leastHarmIs yX3_leastHarmIs ∈ lw_ok := lw_at 472 (by decide +kernel) rfl
theorem cd_X4_stoppedHarm : Cond.code yX4_stoppedHarm cX4_stoppedHarm 3 (some .int) ∈ lw_ok := lw_at 478 (by decide +kernel) rfl
theorem bd_X4_stoppedHarm : pBd yX4_stoppedHarm = (0, 0) := by decide +kernel
theorem pp_X4_stoppedHarm : pPar yX4_stoppedHarm 0 := ⟨by decide +kernel, by decide +kernel, by decide +kernel⟩
theorem im_X4_stoppedHarm : Cond.instanceMethod yX4_stoppedHarm ∈ lw_ok := lw_at 476 (by decide +kernel) rfl
theorem se_X4_stoppedHarm : Cond.selects RX4 yX4_stoppedHarm yX4_stoppedHarm ∈ lw_ok := lw_at 477 (by decide +kernel) rfl
theorem cd_X0_firstWrong : Cond.code yX0_firstWrong cX0_firstWrong 3 (some .int) ∈ lw_ok := lw_at 482 (by decide +kernel) rfl
theorem bd_X0_firstWrong : pBd yX0_firstWrong = (0, 0) := by decide +kernel
theorem pp_X0_firstWrong : pPar yX0_firstWrong 1 := ⟨by decide +kernel, by decide +kernel, by decide +kernel⟩
theorem im_X0_firstWrong : Cond.instanceMethod yX0_firstWrong ∈ lw_ok := lw_at 480 (by decide +kernel) rfl
theorem se_X0_firstWrong : Cond.selects RX0 yX0_firstWrong yX0_firstWrong ∈ lw_ok := lw_at 481 (by decide +kernel) rfl
theorem cd_X4_isEdge : Cond.code yX4_isEdge cX4_isEdge 2 (some .boolean) ∈ lw_ok := lw_at 486 (by decide +kernel) rfl
theorem bd_X4_isEdge : pBd yX4_isEdge = (0, 0) := by decide +kernel
theorem pp_X4_isEdge : pPar yX4_isEdge 1 := ⟨by decide +kernel, by decide +kernel, by decide +kernel⟩
theorem im_X4_isEdge : Cond.instanceMethod yX4_isEdge ∈ lw_ok := lw_at 484 (by decide +kernel) rfl
theorem se_X4_isEdge : Cond.selects RX4 yX4_isEdge yX4_isEdge ∈ lw_ok := lw_at 485 (by decide +kernel) rfl
theorem cd_X5_cell : Cond.code yX5_cell cX5_cell 3 (some .int) ∈ lw_ok := lw_at 492 (by decide +kernel) rfl
theorem bd_X5_cell : pBd yX5_cell = (0, 0) := by decide +kernel
theorem pp_X5_cell : pPar yX5_cell 2 := ⟨by decide +kernel, by decide +kernel, by decide +kernel⟩
theorem im_X5_cell : Cond.instanceMethod yX5_cell ∈ lw_ok := lw_at 490 (by decide +kernel) rfl
theorem se_X5_cell : Cond.selects RX5 yX5_cell yX5_cell ∈ lw_ok := lw_at 491 (by decide +kernel) rfl
theorem cd_X5_harmBehind : Cond.code yX5_harmBehind cX5_harmBehind 2 (some .int) ∈ lw_ok := lw_at 499 (by decide +kernel) rfl
theorem bd_X5_harmBehind : pBd yX5_harmBehind = (0, 0) := by decide +kernel
theorem pp_X5_harmBehind : pPar yX5_harmBehind 1 := ⟨by decide +kernel, by decide +kernel, by decide +kernel⟩
theorem im_X5_harmBehind : Cond.instanceMethod yX5_harmBehind ∈ lw_ok := lw_at 498 (by decide +kernel) rfl
theorem se_X5_harmBehind : Cond.selects RX5 yX5_harmBehind yX5_harmBehind ∈ lw_ok := lw_at 14 (by decide +kernel) rfl
theorem cd_X4_fill : Cond.code yX4_fill cX4_fill 3 none ∈ lw_ok := lw_at 503 (by decide +kernel) rfl
theorem bd_X4_fill : pBd yX4_fill = (0, 0) := by decide +kernel
theorem pp_X4_fill : pPar yX4_fill 1 := ⟨by decide +kernel, by decide +kernel, by decide +kernel⟩
theorem im_X4_fill : Cond.instanceMethod yX4_fill ∈ lw_ok := lw_at 501 (by decide +kernel) rfl
theorem se_X4_fill : Cond.selects RX4 yX4_fill yX4_fill ∈ lw_ok := lw_at 502 (by decide +kernel) rfl
theorem cd_X5_edge : Cond.code yX5_edge cX5_edge 3 (some .int) ∈ lw_ok := lw_at 507 (by decide +kernel) rfl
theorem bd_X5_edge : pBd yX5_edge = (0, 0) := by decide +kernel
theorem pp_X5_edge : pPar yX5_edge 2 := ⟨by decide +kernel, by decide +kernel, by decide +kernel⟩
theorem im_X5_edge : Cond.instanceMethod yX5_edge ∈ lw_ok := lw_at 505 (by decide +kernel) rfl
theorem se_X5_edge : Cond.selects RX5 yX5_edge yX5_edge ∈ lw_ok := lw_at 506 (by decide +kernel) rfl
theorem cd_X5_truckAt : Cond.code yX5_truckAt cX5_truckAt 3 (some .int) ∈ lw_ok := lw_at 515 (by decide +kernel) rfl
theorem bd_X5_truckAt : pBd yX5_truckAt = (0, 0) := by decide +kernel
theorem pp_X5_truckAt : pPar yX5_truckAt 2 := ⟨by decide +kernel, by decide +kernel, by decide +kernel⟩
theorem im_X5_truckAt : Cond.instanceMethod yX5_truckAt ∈ lw_ok := lw_at 513 (by decide +kernel) rfl
theorem se_X5_truckAt : Cond.selects RX5 yX5_truckAt yX5_truckAt ∈ lw_ok := lw_at 514 (by decide +kernel) rfl
theorem cd_X4_isTruck : Cond.code yX4_isTruck cX4_isTruck 2 (some .boolean) ∈ lw_ok := lw_at 519 (by decide +kernel) rfl
theorem bd_X4_isTruck : pBd yX4_isTruck = (0, 0) := by decide +kernel
theorem pp_X4_isTruck : pPar yX4_isTruck 1 := ⟨by decide +kernel, by decide +kernel, by decide +kernel⟩
theorem im_X4_isTruck : Cond.instanceMethod yX4_isTruck ∈ lw_ok := lw_at 517 (by decide +kernel) rfl
theorem se_X4_isTruck : Cond.selects RX4 yX4_isTruck yX4_isTruck ∈ lw_ok := lw_at 518 (by decide +kernel) rfl
theorem cd_X5_mayBeLate : Cond.code yX5_mayBeLate cX5_mayBeLate 5 (some .int) ∈ lw_ok := lw_at 523 (by decide +kernel) rfl
theorem bd_X5_mayBeLate : pBd yX5_mayBeLate = (0, 0) := by decide +kernel
theorem pp_X5_mayBeLate : pPar yX5_mayBeLate 1 := ⟨by decide +kernel, by decide +kernel, by decide +kernel⟩
theorem im_X5_mayBeLate : Cond.instanceMethod yX5_mayBeLate ∈ lw_ok := lw_at 522 (by decide +kernel) rfl
theorem se_X5_mayBeLate : Cond.selects RX5 yX5_mayBeLate yX5_mayBeLate ∈ lw_ok := lw_at 15 (by decide +kernel) rfl
theorem cd_X4_delay : Cond.code yX4_delay cX4_delay 3 none ∈ lw_ok := lw_at 528 (by decide +kernel) rfl
theorem bd_X4_delay : pBd yX4_delay = (0, 0) := by decide +kernel
theorem pp_X4_delay : pPar yX4_delay 2 := ⟨by decide +kernel, by decide +kernel, by decide +kernel⟩
theorem im_X4_delay : Cond.instanceMethod yX4_delay ∈ lw_ok := lw_at 526 (by decide +kernel) rfl
theorem se_X4_delay : Cond.selects RX4 yX4_delay yX4_delay ∈ lw_ok := lw_at 527 (by decide +kernel) rfl
theorem cd_X5_build : Cond.code yX5_build cX5_build 4 (some .int) ∈ lw_ok := lw_at 533 (by decide +kernel) rfl
theorem bd_X5_build : pBd yX5_build = (0, 0) := by decide +kernel
theorem pp_X5_build : pPar yX5_build 2 := ⟨by decide +kernel, by decide +kernel, by decide +kernel⟩
theorem im_X5_build : Cond.instanceMethod yX5_build ∈ lw_ok := lw_at 531 (by decide +kernel) rfl
theorem se_X5_build : Cond.selects RX5 yX5_build yX5_build ∈ lw_ok := lw_at 532 (by decide +kernel) rfl
theorem cd_X5_within : Cond.code yX5_within cX5_within 3 (some .boolean) ∈ lw_ok := lw_at 536 (by decide +kernel) rfl
theorem bd_X5_within : pBd yX5_within = (0, 0) := by decide +kernel
theorem pp_X5_within : pPar yX5_within 3 := ⟨by decide +kernel, by decide +kernel, by decide +kernel⟩
theorem sm_X5_within : Cond.static yX5_within ∈ lw_ok := lw_at 535 (by decide +kernel) rfl
theorem cd_X4_pouredCount : Cond.code yX4_pouredCount cX4_pouredCount 1 (some .int) ∈ lw_ok := lw_at 540 (by decide +kernel) rfl
theorem bd_X4_pouredCount : pBd yX4_pouredCount = (0, 0) := by decide +kernel
theorem pp_X4_pouredCount : pPar yX4_pouredCount 0 := ⟨by decide +kernel, by decide +kernel, by decide +kernel⟩
theorem im_X4_pouredCount : Cond.instanceMethod yX4_pouredCount ∈ lw_ok := lw_at 538 (by decide +kernel) rfl
theorem se_X4_pouredCount : Cond.selects RX4 yX4_pouredCount yX4_pouredCount ∈ lw_ok := lw_at 539 (by decide +kernel) rfl
theorem cd_J6_bitCount_0f7a4 : Cond.code yJ6_bitCount_0f7a4 cJ6_bitCount_0f7a4 1 (some .int) ∈ lw_ok := lw_at 544 (by decide +kernel) rfl
theorem bd_J6_bitCount_0f7a4 : pBd yJ6_bitCount_0f7a4 = (0, 0) := by decide +kernel
theorem pp_J6_bitCount_0f7a4 : pPar yJ6_bitCount_0f7a4 1 := ⟨by decide +kernel, by decide +kernel, by decide +kernel⟩
theorem sm_J6_bitCount_0f7a4 : Cond.static yJ6_bitCount_0f7a4 ∈ lw_ok := lw_at 543 (by decide +kernel) rfl
theorem cd_X5_beforeDeed : Cond.code yX5_beforeDeed cX5_beforeDeed 1 none ∈ lw_ok := lw_at 551 (by decide +kernel) rfl
theorem bd_X5_beforeDeed : pBd yX5_beforeDeed = (0, 0) := by decide +kernel
theorem pp_X5_beforeDeed : pPar yX5_beforeDeed 0 := ⟨by decide +kernel, by decide +kernel, by decide +kernel⟩
theorem im_X5_beforeDeed : Cond.instanceMethod yX5_beforeDeed ∈ lw_ok := lw_at 550 (by decide +kernel) rfl
theorem se_X5_beforeDeed : Cond.selects RX5 yX5_beforeDeed yX5_beforeDeed ∈ lw_ok := lw_at 16 (by decide +kernel) rfl
theorem cd_X1_remember : Cond.code yX1_remember cX1_remember 2 none ∈ lw_ok := lw_at 555 (by decide +kernel) rfl
theorem bd_X1_remember : pBd yX1_remember = (0, 0) := by decide +kernel
theorem pp_X1_remember : pPar yX1_remember 1 := ⟨by decide +kernel, by decide +kernel, by decide +kernel⟩
theorem im_X1_remember : Cond.instanceMethod yX1_remember ∈ lw_ok := lw_at 553 (by decide +kernel) rfl
theorem se_X1_remember : Cond.selects RX1 yX1_remember yX1_remember ∈ lw_ok := lw_at 554 (by decide +kernel) rfl
theorem cd_X5_truck : Cond.code yX5_truck cX5_truck 3 (some .int) ∈ lw_ok := lw_at 562 (by decide +kernel) rfl
theorem bd_X5_truck : pBd yX5_truck = (0, 0) := by decide +kernel
theorem pp_X5_truck : pPar yX5_truck 2 := ⟨by decide +kernel, by decide +kernel, by decide +kernel⟩
theorem im_X5_truck : Cond.instanceMethod yX5_truck ∈ lw_ok := lw_at 560 (by decide +kernel) rfl
theorem se_X5_truck : Cond.selects RX5 yX5_truck yX5_truck ∈ lw_ok := lw_at 561 (by decide +kernel) rfl
theorem cd_X4_hasTruckRoom : Cond.code yX4_hasTruckRoom cX4_hasTruckRoom 1 (some .boolean) ∈ lw_ok := lw_at 566 (by decide +kernel) rfl
theorem bd_X4_hasTruckRoom : pBd yX4_hasTruckRoom = (0, 0) := by decide +kernel
theorem pp_X4_hasTruckRoom : pPar yX4_hasTruckRoom 0 := ⟨by decide +kernel, by decide +kernel, by decide +kernel⟩
theorem im_X4_hasTruckRoom : Cond.instanceMethod yX4_hasTruckRoom ∈ lw_ok := lw_at 564 (by decide +kernel) rfl
theorem se_X4_hasTruckRoom : Cond.selects RX4 yX4_hasTruckRoom yX4_hasTruckRoom ∈ lw_ok := lw_at 565 (by decide +kernel) rfl
theorem cd_X4_addTruck : Cond.code yX4_addTruck cX4_addTruck 3 none ∈ lw_ok := lw_at 571 (by decide +kernel) rfl
theorem bd_X4_addTruck : pBd yX4_addTruck = (0, 0) := by decide +kernel
theorem pp_X4_addTruck : pPar yX4_addTruck 2 := ⟨by decide +kernel, by decide +kernel, by decide +kernel⟩
theorem im_X4_addTruck : Cond.instanceMethod yX4_addTruck ∈ lw_ok := lw_at 569 (by decide +kernel) rfl
theorem se_X4_addTruck : Cond.selects RX4 yX4_addTruck yX4_addTruck ∈ lw_ok := lw_at 570 (by decide +kernel) rfl
theorem cd_X5_late : Cond.code yX5_late cX5_late 4 (some .int) ∈ lw_ok := lw_at 576 (by decide +kernel) rfl
theorem bd_X5_late : pBd yX5_late = (0, 0) := by decide +kernel
theorem pp_X5_late : pPar yX5_late 2 := ⟨by decide +kernel, by decide +kernel, by decide +kernel⟩
theorem im_X5_late : Cond.instanceMethod yX5_late ∈ lw_ok := lw_at 574 (by decide +kernel) rfl
theorem se_X5_late : Cond.selects RX5 yX5_late yX5_late ∈ lw_ok := lw_at 575 (by decide +kernel) rfl
theorem cd_X5_stockIfLate : Cond.code yX5_stockIfLate cX5_stockIfLate 3 (some .int) ∈ lw_ok := lw_at 580 (by decide +kernel) rfl
theorem bd_X5_stockIfLate : pBd yX5_stockIfLate = (0, 0) := by decide +kernel
theorem pp_X5_stockIfLate : pPar yX5_stockIfLate 2 := ⟨by decide +kernel, by decide +kernel, by decide +kernel⟩
theorem im_X5_stockIfLate : Cond.instanceMethod yX5_stockIfLate ∈ lw_ok := lw_at 579 (by decide +kernel) rfl
theorem se_X5_stockIfLate : Cond.selects RX5 yX5_stockIfLate yX5_stockIfLate ∈ lw_ok := lw_at 17 (by decide +kernel) rfl
theorem cd_X5_away : Cond.code yX5_away cX5_away 2 (some .int) ∈ lw_ok := lw_at 585 (by decide +kernel) rfl
theorem bd_X5_away : pBd yX5_away = (0, 0) := by decide +kernel
theorem pp_X5_away : pPar yX5_away 1 := ⟨by decide +kernel, by decide +kernel, by decide +kernel⟩
theorem im_X5_away : Cond.instanceMethod yX5_away ∈ lw_ok := lw_at 583 (by decide +kernel) rfl
theorem se_X5_away : Cond.selects RX5 yX5_away yX5_away ∈ lw_ok := lw_at 584 (by decide +kernel) rfl
theorem cd_X5_stockWithout : Cond.code yX5_stockWithout cX5_stockWithout 2 (some .int) ∈ lw_ok := lw_at 589 (by decide +kernel) rfl
theorem bd_X5_stockWithout : pBd yX5_stockWithout = (0, 0) := by decide +kernel
theorem pp_X5_stockWithout : pPar yX5_stockWithout 1 := ⟨by decide +kernel, by decide +kernel, by decide +kernel⟩
theorem im_X5_stockWithout : Cond.instanceMethod yX5_stockWithout ∈ lw_ok := lw_at 588 (by decide +kernel) rfl
theorem se_X5_stockWithout : Cond.selects RX5 yX5_stockWithout yX5_stockWithout ∈ lw_ok := lw_at 18 (by decide +kernel) rfl
theorem cd_X4_dropTruck : Cond.code yX4_dropTruck cX4_dropTruck 3 none ∈ lw_ok := lw_at 593 (by decide +kernel) rfl
theorem bd_X4_dropTruck : pBd yX4_dropTruck = (0, 0) := by decide +kernel
theorem pp_X4_dropTruck : pPar yX4_dropTruck 1 := ⟨by decide +kernel, by decide +kernel, by decide +kernel⟩
theorem im_X4_dropTruck : Cond.instanceMethod yX4_dropTruck ∈ lw_ok := lw_at 591 (by decide +kernel) rfl
theorem se_X4_dropTruck : Cond.selects RX4 yX4_dropTruck yX4_dropTruck ∈ lw_ok := lw_at 592 (by decide +kernel) rfl
theorem cd_X5_need : Cond.code yX5_need cX5_need 4 (some .int) ∈ lw_ok := lw_at 597 (by decide +kernel) rfl
theorem bd_X5_need : pBd yX5_need = (0, 0) := by decide +kernel
theorem pp_X5_need : pPar yX5_need 2 := ⟨by decide +kernel, by decide +kernel, by decide +kernel⟩
theorem im_X5_need : Cond.instanceMethod yX5_need ∈ lw_ok := lw_at 595 (by decide +kernel) rfl
theorem se_X5_need : Cond.selects RX5 yX5_need yX5_need ∈ lw_ok := lw_at 596 (by decide +kernel) rfl
theorem cd_X5_bound : Cond.code yX5_bound cX5_bound 4 (some .int) ∈ lw_ok := lw_at 602 (by decide +kernel) rfl
theorem bd_X5_bound : pBd yX5_bound = (0, 0) := by decide +kernel
theorem pp_X5_bound : pPar yX5_bound 2 := ⟨by decide +kernel, by decide +kernel, by decide +kernel⟩
theorem im_X5_bound : Cond.instanceMethod yX5_bound ∈ lw_ok := lw_at 600 (by decide +kernel) rfl
theorem se_X5_bound : Cond.selects RX5 yX5_bound yX5_bound ∈ lw_ok := lw_at 601 (by decide +kernel) rfl
theorem cd_X4_swapBound : Cond.code yX4_swapBound cX4_swapBound 4 (some .int) ∈ lw_ok := lw_at 606 (by decide +kernel) rfl
theorem bd_X4_swapBound : pBd yX4_swapBound = (0, 0) := by decide +kernel
theorem pp_X4_swapBound : pPar yX4_swapBound 2 := ⟨by decide +kernel, by decide +kernel, by decide +kernel⟩
theorem im_X4_swapBound : Cond.instanceMethod yX4_swapBound ∈ lw_ok := lw_at 604 (by decide +kernel) rfl
theorem se_X4_swapBound : Cond.selects RX4 yX4_swapBound yX4_swapBound ∈ lw_ok := lw_at 605 (by decide +kernel) rfl
theorem cd_X5_pour : Cond.code yX5_pour cX5_pour 2 (some .int) ∈ lw_ok := lw_at 610 (by decide +kernel) rfl
theorem bd_X5_pour : pBd yX5_pour = (0, 0) := by decide +kernel
theorem pp_X5_pour : pPar yX5_pour 1 := ⟨by decide +kernel, by decide +kernel, by decide +kernel⟩
theorem im_X5_pour : Cond.instanceMethod yX5_pour ∈ lw_ok := lw_at 608 (by decide +kernel) rfl
theorem se_X5_pour : Cond.selects RX5 yX5_pour yX5_pour ∈ lw_ok := lw_at 609 (by decide +kernel) rfl
theorem cd_X5_rest : Cond.code yX5_rest cX5_rest 2 (some .int) ∈ lw_ok := lw_at 614 (by decide +kernel) rfl
theorem bd_X5_rest : pBd yX5_rest = (0, 0) := by decide +kernel
theorem pp_X5_rest : pPar yX5_rest 1 := ⟨by decide +kernel, by decide +kernel, by decide +kernel⟩
theorem im_X5_rest : Cond.instanceMethod yX5_rest ∈ lw_ok := lw_at 612 (by decide +kernel) rfl
theorem se_X5_rest : Cond.selects RX5 yX5_rest yX5_rest ∈ lw_ok := lw_at 613 (by decide +kernel) rfl
theorem cd_X5_follow : Cond.code yX5_follow cX5_follow 2 (some .int) ∈ lw_ok := lw_at 618 (by decide +kernel) rfl
theorem bd_X5_follow : pBd yX5_follow = (0, 0) := by decide +kernel
theorem pp_X5_follow : pPar yX5_follow 0 := ⟨by decide +kernel, by decide +kernel, by decide +kernel⟩
theorem im_X5_follow : Cond.instanceMethod yX5_follow ∈ lw_ok := lw_at 616 (by decide +kernel) rfl
theorem se_X5_follow : Cond.selects RX5 yX5_follow yX5_follow ∈ lw_ok := lw_at 617 (by decide +kernel) rfl
theorem cd_X3_cellAt : Cond.code yX3_cellAt cX3_cellAt 2 (some .int) ∈ lw_ok := lw_at 622 (by decide +kernel) rfl
theorem bd_X3_cellAt : pBd yX3_cellAt = (0, 0) := by decide +kernel
theorem pp_X3_cellAt : pPar yX3_cellAt 1 := ⟨by decide +kernel, by decide +kernel, by decide +kernel⟩
theorem im_X3_cellAt : Cond.instanceMethod yX3_cellAt ∈ lw_ok := lw_at 620 (by decide +kernel) rfl
theorem se_X3_cellAt : Cond.selects RX3 yX3_cellAt yX3_cellAt ∈ lw_ok := lw_at 621 (by decide +kernel) rfl
theorem cd_X5_drift : Cond.code yX5_drift cX5_drift 3 (some .int) ∈ lw_ok := lw_at 626 (by decide +kernel) rfl
theorem bd_X5_drift : pBd yX5_drift = (0, 0) := by decide +kernel
theorem pp_X5_drift : pPar yX5_drift 1 := ⟨by decide +kernel, by decide +kernel, by decide +kernel⟩
theorem im_X5_drift : Cond.instanceMethod yX5_drift ∈ lw_ok := lw_at 624 (by decide +kernel) rfl
theorem se_X5_drift : Cond.selects RX5 yX5_drift yX5_drift ∈ lw_ok := lw_at 625 (by decide +kernel) rfl
theorem cd_X5_driftOnce : Cond.code yX5_driftOnce cX5_driftOnce 5 none ∈ lw_ok := lw_at 630 (by decide +kernel) rfl
theorem bd_X5_driftOnce : pBd yX5_driftOnce = (0, 0) := by decide +kernel
theorem pp_X5_driftOnce : pPar yX5_driftOnce 0 := ⟨by decide +kernel, by decide +kernel, by decide +kernel⟩
theorem im_X5_driftOnce : Cond.instanceMethod yX5_driftOnce ∈ lw_ok := lw_at 629 (by decide +kernel) rfl
theorem se_X5_driftOnce : Cond.selects RX5 yX5_driftOnce yX5_driftOnce ∈ lw_ok := lw_at 19 (by decide +kernel) rfl
theorem cd_X5_draw : Cond.code yX5_draw cX5_draw 2 (some .int) ∈ lw_ok := lw_at 634 (by decide +kernel) rfl
theorem bd_X5_draw : pBd yX5_draw = (0, 0) := by decide +kernel
theorem pp_X5_draw : pPar yX5_draw 1 := ⟨by decide +kernel, by decide +kernel, by decide +kernel⟩
theorem im_X5_draw : Cond.instanceMethod yX5_draw ∈ lw_ok := lw_at 633 (by decide +kernel) rfl
theorem se_X5_draw : Cond.selects RX5 yX5_draw yX5_draw ∈ lw_ok := lw_at 20 (by decide +kernel) rfl
theorem cd_X5_undo : Cond.code yX5_undo cX5_undo 2 (some .int) ∈ lw_ok := lw_at 643 (by decide +kernel) rfl
theorem bd_X5_undo : pBd yX5_undo = (0, 0) := by decide +kernel
theorem pp_X5_undo : pPar yX5_undo 1 := ⟨by decide +kernel, by decide +kernel, by decide +kernel⟩
theorem im_X5_undo : Cond.instanceMethod yX5_undo ∈ lw_ok := lw_at 641 (by decide +kernel) rfl
theorem se_X5_undo : Cond.selects RX5 yX5_undo yX5_undo ∈ lw_ok := lw_at 642 (by decide +kernel) rfl
theorem cd_X1_takeBack : Cond.code yX1_takeBack cX1_takeBack 3 none ∈ lw_ok := lw_at 647 (by decide +kernel) rfl
theorem bd_X1_takeBack : pBd yX1_takeBack = (0, 0) := by decide +kernel
theorem pp_X1_takeBack : pPar yX1_takeBack 2 := ⟨by decide +kernel, by decide +kernel, by decide +kernel⟩
theorem im_X1_takeBack : Cond.instanceMethod yX1_takeBack ∈ lw_ok := lw_at 645 (by decide +kernel) rfl
theorem se_X1_takeBack : Cond.selects RX1 yX1_takeBack yX1_takeBack ∈ lw_ok := lw_at 646 (by decide +kernel) rfl
theorem cd_X5_best : Cond.code yX5_best cX5_best 2 (some .int) ∈ lw_ok := lw_at 651 (by decide +kernel) rfl
theorem bd_X5_best : pBd yX5_best = (0, 0) := by decide +kernel
theorem pp_X5_best : pPar yX5_best 1 := ⟨by decide +kernel, by decide +kernel, by decide +kernel⟩
theorem im_X5_best : Cond.instanceMethod yX5_best ∈ lw_ok := lw_at 649 (by decide +kernel) rfl
theorem se_X5_best : Cond.selects RX5 yX5_best yX5_best ∈ lw_ok := lw_at 650 (by decide +kernel) rfl
theorem cd_X5_stop : Cond.code yX5_stop cX5_stop 7 (some .int) ∈ lw_ok := lw_at 655 (by decide +kernel) rfl
theorem bd_X5_stop : pBd yX5_stop = (0, 0) := by decide +kernel
theorem pp_X5_stop : pPar yX5_stop 1 := ⟨by decide +kernel, by decide +kernel, by decide +kernel⟩
theorem im_X5_stop : Cond.instanceMethod yX5_stop ∈ lw_ok := lw_at 653 (by decide +kernel) rfl
theorem se_X5_stop : Cond.selects RX5 yX5_stop yX5_stop ∈ lw_ok := lw_at 654 (by decide +kernel) rfl
theorem cd_X5_write : Cond.code yX5_write cX5_write 3 (some .int) ∈ lw_ok := lw_at 659 (by decide +kernel) rfl
theorem bd_X5_write : pBd yX5_write = (0, 0) := by decide +kernel
theorem pp_X5_write : pPar yX5_write 2 := ⟨by decide +kernel, by decide +kernel, by decide +kernel⟩
theorem im_X5_write : Cond.instanceMethod yX5_write ∈ lw_ok := lw_at 657 (by decide +kernel) rfl
theorem se_X5_write : Cond.selects RX5 yX5_write yX5_write ∈ lw_ok := lw_at 658 (by decide +kernel) rfl
theorem cd_X0_hasRoom : Cond.code yX0_hasRoom cX0_hasRoom 1 (some .boolean) ∈ lw_ok := lw_at 663 (by decide +kernel) rfl
theorem bd_X0_hasRoom : pBd yX0_hasRoom = (0, 0) := by decide +kernel
theorem pp_X0_hasRoom : pPar yX0_hasRoom 0 := ⟨by decide +kernel, by decide +kernel, by decide +kernel⟩
theorem im_X0_hasRoom : Cond.instanceMethod yX0_hasRoom ∈ lw_ok := lw_at 661 (by decide +kernel) rfl
theorem se_X0_hasRoom : Cond.selects RX0 yX0_hasRoom yX0_hasRoom ∈ lw_ok := lw_at 662 (by decide +kernel) rfl
theorem cd_X0_enter : Cond.code yX0_enter cX0_enter 3 none ∈ lw_ok := lw_at 667 (by decide +kernel) rfl
theorem bd_X0_enter : pBd yX0_enter = (0, 0) := by decide +kernel
theorem pp_X0_enter : pPar yX0_enter 2 := ⟨by decide +kernel, by decide +kernel, by decide +kernel⟩
theorem im_X0_enter : Cond.instanceMethod yX0_enter ∈ lw_ok := lw_at 665 (by decide +kernel) rfl
theorem se_X0_enter : Cond.selects RX0 yX0_enter yX0_enter ∈ lw_ok := lw_at 666 (by decide +kernel) rfl
theorem cd_X5_tear : Cond.code yX5_tear cX5_tear 2 (some .int) ∈ lw_ok := lw_at 672 (by decide +kernel) rfl
theorem bd_X5_tear : pBd yX5_tear = (0, 0) := by decide +kernel
theorem pp_X5_tear : pPar yX5_tear 0 := ⟨by decide +kernel, by decide +kernel, by decide +kernel⟩
theorem im_X5_tear : Cond.instanceMethod yX5_tear ∈ lw_ok := lw_at 670 (by decide +kernel) rfl
theorem se_X5_tear : Cond.selects RX5 yX5_tear yX5_tear ∈ lw_ok := lw_at 671 (by decide +kernel) rfl
theorem cd_X5_seed : Cond.code yX5_seed cX5_seed 3 (some .int) ∈ lw_ok := lw_at 676 (by decide +kernel) rfl
theorem bd_X5_seed : pBd yX5_seed = (0, 0) := by decide +kernel
theorem pp_X5_seed : pPar yX5_seed 1 := ⟨by decide +kernel, by decide +kernel, by decide +kernel⟩
theorem im_X5_seed : Cond.instanceMethod yX5_seed ∈ lw_ok := lw_at 674 (by decide +kernel) rfl
theorem se_X5_seed : Cond.selects RX5 yX5_seed yX5_seed ∈ lw_ok := lw_at 675 (by decide +kernel) rfl
theorem cd_X5_keep : Cond.code yX5_keep cX5_keep 3 (some .int) ∈ lw_ok := lw_at 680 (by decide +kernel) rfl
theorem bd_X5_keep : pBd yX5_keep = (0, 0) := by decide +kernel
theorem pp_X5_keep : pPar yX5_keep 1 := ⟨by decide +kernel, by decide +kernel, by decide +kernel⟩
theorem im_X5_keep : Cond.instanceMethod yX5_keep ∈ lw_ok := lw_at 678 (by decide +kernel) rfl
theorem se_X5_keep : Cond.selects RX5 yX5_keep yX5_keep ∈ lw_ok := lw_at 679 (by decide +kernel) rfl
theorem cd_X5_imageAt : Cond.code yX5_imageAt cX5_imageAt 2 (some (.object "PourPlan$Image")) ∈ lw_ok := lw_at 684 (by decide +kernel) rfl
theorem bd_X5_imageAt : pBd yX5_imageAt = (0, 0) := by decide +kernel
theorem pp_X5_imageAt : pPar yX5_imageAt 1 := ⟨by decide +kernel, by decide +kernel, by decide +kernel⟩
theorem im_X5_imageAt : Cond.instanceMethod yX5_imageAt ∈ lw_ok := lw_at 683 (by decide +kernel) rfl
theorem se_X5_imageAt : Cond.selects RX5 yX5_imageAt yX5_imageAt ∈ lw_ok := lw_at 21 (by decide +kernel) rfl
theorem cd_X1_forget : Cond.code yX1_forget cX1_forget 1 none ∈ lw_ok := lw_at 688 (by decide +kernel) rfl
theorem bd_X1_forget : pBd yX1_forget = (0, 0) := by decide +kernel
theorem pp_X1_forget : pPar yX1_forget 0 := ⟨by decide +kernel, by decide +kernel, by decide +kernel⟩
theorem im_X1_forget : Cond.instanceMethod yX1_forget ∈ lw_ok := lw_at 686 (by decide +kernel) rfl
theorem se_X1_forget : Cond.selects RX1 yX1_forget yX1_forget ∈ lw_ok := lw_at 687 (by decide +kernel) rfl
theorem cd_X5_goBack : Cond.code yX5_goBack cX5_goBack 3 (some .int) ∈ lw_ok := lw_at 692 (by decide +kernel) rfl
theorem bd_X5_goBack : pBd yX5_goBack = (0, 0) := by decide +kernel
theorem pp_X5_goBack : pPar yX5_goBack 1 := ⟨by decide +kernel, by decide +kernel, by decide +kernel⟩
theorem im_X5_goBack : Cond.instanceMethod yX5_goBack ∈ lw_ok := lw_at 690 (by decide +kernel) rfl
theorem se_X5_goBack : Cond.selects RX5 yX5_goBack yX5_goBack ∈ lw_ok := lw_at 691 (by decide +kernel) rfl
theorem cd_X6_init : Cond.code yX6_init cX6_init 1 none ∈ lw_ok := lw_at 697 (by decide +kernel) rfl
theorem bd_X6_init : pBd yX6_init = (8, 1373) := by decide +kernel
theorem pp_X6_init : pPar yX6_init 0 := ⟨by decide +kernel, by decide +kernel, by decide +kernel⟩
theorem im_X6_init : Cond.instanceMethod yX6_init ∈ lw_ok := lw_at 696 (by decide +kernel) rfl
theorem cd_X6_builds : Cond.code yX6_builds cX6_builds 4 none ∈ lw_ok := lw_at 702 (by decide +kernel) rfl
theorem bd_X6_builds : pBd yX6_builds = (0, 0) := by decide +kernel
theorem pp_X6_builds : pPar yX6_builds 2 := ⟨by decide +kernel, by decide +kernel, by decide +kernel⟩
theorem im_X6_builds : Cond.instanceMethod yX6_builds ∈ lw_ok := lw_at 701 (by decide +kernel) rfl
theorem se_X6_builds : Cond.selects RX6 yX6_builds yX6_builds ∈ lw_ok := lw_at 22 (by decide +kernel) rfl
theorem cd_X6_told : Cond.code yX6_told cX6_told 2 (some .int) ∈ lw_ok := lw_at 749 (by decide +kernel) rfl
theorem bd_X6_told : pBd yX6_told = (0, 0) := by decide +kernel
theorem pp_X6_told : pPar yX6_told 1 := ⟨by decide +kernel, by decide +kernel, by decide +kernel⟩
theorem im_X6_told : Cond.instanceMethod yX6_told ∈ lw_ok := lw_at 747 (by decide +kernel) rfl
theorem se_X6_told : Cond.selects RX6 yX6_told yX6_told ∈ lw_ok := lw_at 748 (by decide +kernel) rfl
theorem cd_X6_brought : Cond.code yX6_brought cX6_brought 5 (some .int) ∈ lw_ok := lw_at 753 (by decide +kernel) rfl
theorem bd_X6_brought : pBd yX6_brought = (0, 0) := by decide +kernel
theorem pp_X6_brought : pPar yX6_brought 2 := ⟨by decide +kernel, by decide +kernel, by decide +kernel⟩
theorem im_X6_brought : Cond.instanceMethod yX6_brought ∈ lw_ok := lw_at 752 (by decide +kernel) rfl
theorem se_X6_brought : Cond.selects RX6 yX6_brought yX6_brought ∈ lw_ok := lw_at 23 (by decide +kernel) rfl
theorem cd_X6_used : Cond.code yX6_used cX6_used 4 (some .int) ∈ lw_ok := lw_at 757 (by decide +kernel) rfl
theorem bd_X6_used : pBd yX6_used = (0, 0) := by decide +kernel
theorem pp_X6_used : pPar yX6_used 1 := ⟨by decide +kernel, by decide +kernel, by decide +kernel⟩
theorem im_X6_used : Cond.instanceMethod yX6_used ∈ lw_ok := lw_at 756 (by decide +kernel) rfl
theorem se_X6_used : Cond.selects RX6 yX6_used yX6_used ∈ lw_ok := lw_at 24 (by decide +kernel) rfl
theorem cd_X6_isPoured : Cond.code yX6_isPoured cX6_isPoured 3 (some .boolean) ∈ lw_ok := lw_at 761 (by decide +kernel) rfl
theorem bd_X6_isPoured : pBd yX6_isPoured = (0, 0) := by decide +kernel
theorem pp_X6_isPoured : pPar yX6_isPoured 2 := ⟨by decide +kernel, by decide +kernel, by decide +kernel⟩
theorem im_X6_isPoured : Cond.instanceMethod yX6_isPoured ∈ lw_ok := lw_at 760 (by decide +kernel) rfl
theorem se_X6_isPoured : Cond.selects RX6 yX6_isPoured yX6_isPoured ∈ lw_ok := lw_at 25 (by decide +kernel) rfl
theorem cd_X6_poured : Cond.code yX6_poured cX6_poured 3 (some .int) ∈ lw_ok := lw_at 765 (by decide +kernel) rfl
theorem bd_X6_poured : pBd yX6_poured = (0, 0) := by decide +kernel
theorem pp_X6_poured : pPar yX6_poured 0 := ⟨by decide +kernel, by decide +kernel, by decide +kernel⟩
theorem im_X6_poured : Cond.instanceMethod yX6_poured ∈ lw_ok := lw_at 764 (by decide +kernel) rfl
theorem se_X6_poured : Cond.selects RX6 yX6_poured yX6_poured ∈ lw_ok := lw_at 26 (by decide +kernel) rfl
theorem cd_X6_cells : Cond.code yX6_cells cX6_cells 1 (some .int) ∈ lw_ok := lw_at 769 (by decide +kernel) rfl
theorem bd_X6_cells : pBd yX6_cells = (0, 0) := by decide +kernel
theorem pp_X6_cells : pPar yX6_cells 0 := ⟨by decide +kernel, by decide +kernel, by decide +kernel⟩
theorem im_X6_cells : Cond.instanceMethod yX6_cells ∈ lw_ok := lw_at 768 (by decide +kernel) rfl
theorem se_X6_cells : Cond.selects RX6 yX6_cells yX6_cells ∈ lw_ok := lw_at 27 (by decide +kernel) rfl
theorem cd_X6_can : Cond.code yX6_can cX6_can 3 (some .int) ∈ lw_ok := lw_at 773 (by decide +kernel) rfl
theorem bd_X6_can : pBd yX6_can = (0, 0) := by decide +kernel
theorem pp_X6_can : pPar yX6_can 0 := ⟨by decide +kernel, by decide +kernel, by decide +kernel⟩
theorem im_X6_can : Cond.instanceMethod yX6_can ∈ lw_ok := lw_at 772 (by decide +kernel) rfl
theorem se_X6_can : Cond.selects RX6 yX6_can yX6_can ∈ lw_ok := lw_at 28 (by decide +kernel) rfl
theorem cd_X6_beginOf : Cond.code yX6_beginOf cX6_beginOf 8 (some .int) ∈ lw_ok := lw_at 777 (by decide +kernel) rfl
theorem bd_X6_beginOf : pBd yX6_beginOf = (0, 0) := by decide +kernel
theorem pp_X6_beginOf : pPar yX6_beginOf 2 := ⟨by decide +kernel, by decide +kernel, by decide +kernel⟩
theorem im_X6_beginOf : Cond.instanceMethod yX6_beginOf ∈ lw_ok := lw_at 776 (by decide +kernel) rfl
theorem se_X6_beginOf : Cond.selects RX6 yX6_beginOf yX6_beginOf ∈ lw_ok := lw_at 29 (by decide +kernel) rfl
theorem cd_X6_joints : Cond.code yX6_joints cX6_joints 3 (some .int) ∈ lw_ok := lw_at 782 (by decide +kernel) rfl
theorem bd_X6_joints : pBd yX6_joints = (0, 0) := by decide +kernel
theorem pp_X6_joints : pPar yX6_joints 0 := ⟨by decide +kernel, by decide +kernel, by decide +kernel⟩
theorem im_X6_joints : Cond.instanceMethod yX6_joints ∈ lw_ok := lw_at 781 (by decide +kernel) rfl
theorem se_X6_joints : Cond.selects RX6 yX6_joints yX6_joints ∈ lw_ok := lw_at 30 (by decide +kernel) rfl
theorem cd_X6_isJoint : Cond.code yX6_isJoint cX6_isJoint 5 (some .boolean) ∈ lw_ok := lw_at 786 (by decide +kernel) rfl
theorem bd_X6_isJoint : pBd yX6_isJoint = (0, 0) := by decide +kernel
theorem pp_X6_isJoint : pPar yX6_isJoint 2 := ⟨by decide +kernel, by decide +kernel, by decide +kernel⟩
theorem im_X6_isJoint : Cond.instanceMethod yX6_isJoint ∈ lw_ok := lw_at 785 (by decide +kernel) rfl
theorem se_X6_isJoint : Cond.selects RX6 yX6_isJoint yX6_isJoint ∈ lw_ok := lw_at 31 (by decide +kernel) rfl
theorem cd_X6_beyond : Cond.code yX6_beyond cX6_beyond 5 (some .int) ∈ lw_ok := lw_at 790 (by decide +kernel) rfl
theorem bd_X6_beyond : pBd yX6_beyond = (0, 0) := by decide +kernel
theorem pp_X6_beyond : pPar yX6_beyond 2 := ⟨by decide +kernel, by decide +kernel, by decide +kernel⟩
theorem im_X6_beyond : Cond.instanceMethod yX6_beyond ∈ lw_ok := lw_at 789 (by decide +kernel) rfl
theorem se_X6_beyond : Cond.selects RX6 yX6_beyond yX6_beyond ∈ lw_ok := lw_at 32 (by decide +kernel) rfl
theorem cd_X6_in : Cond.code yX6_in cX6_in 6 (some .boolean) ∈ lw_ok := lw_at 793 (by decide +kernel) rfl
theorem bd_X6_in : pBd yX6_in = (0, 0) := by decide +kernel
theorem pp_X6_in : pPar yX6_in 3 := ⟨by decide +kernel, by decide +kernel, by decide +kernel⟩
theorem sm_X6_in : Cond.static yX6_in ∈ lw_ok := lw_at 792 (by decide +kernel) rfl
theorem cd_X6_harm : Cond.code yX6_harm cX6_harm 6 (some .int) ∈ lw_ok := lw_at 797 (by decide +kernel) rfl
theorem bd_X6_harm : pBd yX6_harm = (0, 0) := by decide +kernel
theorem pp_X6_harm : pPar yX6_harm 2 := ⟨by decide +kernel, by decide +kernel, by decide +kernel⟩
theorem im_X6_harm : Cond.instanceMethod yX6_harm ∈ lw_ok := lw_at 796 (by decide +kernel) rfl
theorem se_X6_harm : Cond.selects RX6 yX6_harm yX6_harm ∈ lw_ok := lw_at 33 (by decide +kernel) rfl
theorem cd_X6_isOpen : Cond.code yX6_isOpen cX6_isOpen 4 (some .boolean) ∈ lw_ok := lw_at 801 (by decide +kernel) rfl
theorem bd_X6_isOpen : pBd yX6_isOpen = (0, 0) := by decide +kernel
theorem pp_X6_isOpen : pPar yX6_isOpen 2 := ⟨by decide +kernel, by decide +kernel, by decide +kernel⟩
theorem im_X6_isOpen : Cond.instanceMethod yX6_isOpen ∈ lw_ok := lw_at 800 (by decide +kernel) rfl
theorem se_X6_isOpen : Cond.selects RX6 yX6_isOpen yX6_isOpen ∈ lw_ok := lw_at 34 (by decide +kernel) rfl
theorem cd_X6_firstToSet : Cond.code yX6_firstToSet cX6_firstToSet 3 (some .int) ∈ lw_ok := lw_at 805 (by decide +kernel) rfl
theorem bd_X6_firstToSet : pBd yX6_firstToSet = (0, 0) := by decide +kernel
theorem pp_X6_firstToSet : pPar yX6_firstToSet 0 := ⟨by decide +kernel, by decide +kernel, by decide +kernel⟩
theorem im_X6_firstToSet : Cond.instanceMethod yX6_firstToSet ∈ lw_ok := lw_at 804 (by decide +kernel) rfl
theorem se_X6_firstToSet : Cond.selects RX6 yX6_firstToSet yX6_firstToSet ∈ lw_ok := lw_at 35 (by decide +kernel) rfl
theorem cd_X6_left : Cond.code yX6_left cX6_left 2 (some .int) ∈ lw_ok := lw_at 809 (by decide +kernel) rfl
theorem bd_X6_left : pBd yX6_left = (0, 0) := by decide +kernel
theorem pp_X6_left : pPar yX6_left 1 := ⟨by decide +kernel, by decide +kernel, by decide +kernel⟩
theorem im_X6_left : Cond.instanceMethod yX6_left ∈ lw_ok := lw_at 808 (by decide +kernel) rfl
theorem se_X6_left : Cond.selects RX6 yX6_left yX6_left ∈ lw_ok := lw_at 36 (by decide +kernel) rfl
theorem cd_X6_ofBest : Cond.code yX6_ofBest cX6_ofBest 2 (some .int) ∈ lw_ok := lw_at 813 (by decide +kernel) rfl
theorem bd_X6_ofBest : pBd yX6_ofBest = (0, 0) := by decide +kernel
theorem pp_X6_ofBest : pPar yX6_ofBest 1 := ⟨by decide +kernel, by decide +kernel, by decide +kernel⟩
theorem im_X6_ofBest : Cond.instanceMethod yX6_ofBest ∈ lw_ok := lw_at 812 (by decide +kernel) rfl
theorem se_X6_ofBest : Cond.selects RX6 yX6_ofBest yX6_ofBest ∈ lw_ok := lw_at 37 (by decide +kernel) rfl
theorem cd_X6_finds : Cond.code yX6_finds cX6_finds 1 none ∈ lw_ok := lw_at 817 (by decide +kernel) rfl
theorem bd_X6_finds : pBd yX6_finds = (0, 0) := by decide +kernel
theorem pp_X6_finds : pPar yX6_finds 0 := ⟨by decide +kernel, by decide +kernel, by decide +kernel⟩
theorem im_X6_finds : Cond.instanceMethod yX6_finds ∈ lw_ok := lw_at 816 (by decide +kernel) rfl
theorem se_X6_finds : Cond.selects RX6 yX6_finds yX6_finds ∈ lw_ok := lw_at 38 (by decide +kernel) rfl
theorem cd_X6_copy : Cond.code yX6_copy cX6_copy 4 none ∈ lw_ok := lw_at 821 (by decide +kernel) rfl
theorem bd_X6_copy : pBd yX6_copy = (0, 0) := by decide +kernel
theorem pp_X6_copy : pPar yX6_copy 2 := ⟨by decide +kernel, by decide +kernel, by decide +kernel⟩
theorem im_X6_copy : Cond.instanceMethod yX6_copy ∈ lw_ok := lw_at 820 (by decide +kernel) rfl
theorem se_X6_copy : Cond.selects RX6 yX6_copy yX6_copy ∈ lw_ok := lw_at 39 (by decide +kernel) rfl
theorem cd_X6_seeks : Cond.code yX6_seeks cX6_seeks 5 none ∈ lw_ok := lw_at 825 (by decide +kernel) rfl
theorem bd_X6_seeks : pBd yX6_seeks = (0, 0) := by decide +kernel
theorem pp_X6_seeks : pPar yX6_seeks 0 := ⟨by decide +kernel, by decide +kernel, by decide +kernel⟩
theorem im_X6_seeks : Cond.instanceMethod yX6_seeks ∈ lw_ok := lw_at 824 (by decide +kernel) rfl
theorem se_X6_seeks : Cond.selects RX6 yX6_seeks yX6_seeks ∈ lw_ok := lw_at 40 (by decide +kernel) rfl
theorem cd_X6_weighs : Cond.code yX6_weighs cX6_weighs 5 none ∈ lw_ok := lw_at 829 (by decide +kernel) rfl
theorem bd_X6_weighs : pBd yX6_weighs = (0, 0) := by decide +kernel
theorem pp_X6_weighs : pPar yX6_weighs 1 := ⟨by decide +kernel, by decide +kernel, by decide +kernel⟩
theorem im_X6_weighs : Cond.instanceMethod yX6_weighs ∈ lw_ok := lw_at 828 (by decide +kernel) rfl
theorem se_X6_weighs : Cond.selects RX6 yX6_weighs yX6_weighs ∈ lw_ok := lw_at 41 (by decide +kernel) rfl
theorem cd_X6_pours : Cond.code yX6_pours cX6_pours 4 (some .boolean) ∈ lw_ok := lw_at 833 (by decide +kernel) rfl
theorem bd_X6_pours : pBd yX6_pours = (0, 0) := by decide +kernel
theorem pp_X6_pours : pPar yX6_pours 2 := ⟨by decide +kernel, by decide +kernel, by decide +kernel⟩
theorem im_X6_pours : Cond.instanceMethod yX6_pours ∈ lw_ok := lw_at 832 (by decide +kernel) rfl
theorem se_X6_pours : Cond.selects RX6 yX6_pours yX6_pours ∈ lw_ok := lw_at 42 (by decide +kernel) rfl
theorem cd_X6_mayWait : Cond.code yX6_mayWait cX6_mayWait 4 (some .int) ∈ lw_ok := lw_at 837 (by decide +kernel) rfl
theorem bd_X6_mayWait : pBd yX6_mayWait = (0, 0) := by decide +kernel
theorem pp_X6_mayWait : pPar yX6_mayWait 0 := ⟨by decide +kernel, by decide +kernel, by decide +kernel⟩
theorem im_X6_mayWait : Cond.instanceMethod yX6_mayWait ∈ lw_ok := lw_at 836 (by decide +kernel) rfl
theorem se_X6_mayWait : Cond.selects RX6 yX6_mayWait yX6_mayWait ∈ lw_ok := lw_at 43 (by decide +kernel) rfl
theorem cd_X6_wrong : Cond.code yX6_wrong cX6_wrong 2 (some .int) ∈ lw_ok := lw_at 841 (by decide +kernel) rfl
theorem bd_X6_wrong : pBd yX6_wrong = (0, 0) := by decide +kernel
theorem pp_X6_wrong : pPar yX6_wrong 0 := ⟨by decide +kernel, by decide +kernel, by decide +kernel⟩
theorem im_X6_wrong : Cond.instanceMethod yX6_wrong ∈ lw_ok := lw_at 840 (by decide +kernel) rfl
theorem se_X6_wrong : Cond.selects RX6 yX6_wrong yX6_wrong ∈ lw_ok := lw_at 44 (by decide +kernel) rfl
theorem cd_X6_cell : Cond.code yX6_cell cX6_cell 3 (some .int) ∈ lw_ok := lw_at 846 (by decide +kernel) rfl
theorem bd_X6_cell : pBd yX6_cell = (0, 0) := by decide +kernel
theorem pp_X6_cell : pPar yX6_cell 2 := ⟨by decide +kernel, by decide +kernel, by decide +kernel⟩
theorem im_X6_cell : Cond.instanceMethod yX6_cell ∈ lw_ok := lw_at 844 (by decide +kernel) rfl
theorem se_X6_cell : Cond.selects RX6 yX6_cell yX6_cell ∈ lw_ok := lw_at 845 (by decide +kernel) rfl
theorem cd_X6_isCell : Cond.code yX6_isCell cX6_isCell 2 (some .boolean) ∈ lw_ok := lw_at 850 (by decide +kernel) rfl
theorem bd_X6_isCell : pBd yX6_isCell = (0, 0) := by decide +kernel
theorem pp_X6_isCell : pPar yX6_isCell 1 := ⟨by decide +kernel, by decide +kernel, by decide +kernel⟩
theorem im_X6_isCell : Cond.instanceMethod yX6_isCell ∈ lw_ok := lw_at 849 (by decide +kernel) rfl
theorem se_X6_isCell : Cond.selects RX6 yX6_isCell yX6_isCell ∈ lw_ok := lw_at 45 (by decide +kernel) rfl
theorem cd_X6_harmBehind : Cond.code yX6_harmBehind cX6_harmBehind 2 (some .int) ∈ lw_ok := lw_at 855 (by decide +kernel) rfl
theorem bd_X6_harmBehind : pBd yX6_harmBehind = (0, 0) := by decide +kernel
theorem pp_X6_harmBehind : pPar yX6_harmBehind 1 := ⟨by decide +kernel, by decide +kernel, by decide +kernel⟩
theorem im_X6_harmBehind : Cond.instanceMethod yX6_harmBehind ∈ lw_ok := lw_at 854 (by decide +kernel) rfl
theorem se_X6_harmBehind : Cond.selects RX6 yX6_harmBehind yX6_harmBehind ∈ lw_ok := lw_at 46 (by decide +kernel) rfl
theorem cd_X6_edge : Cond.code yX6_edge cX6_edge 3 (some .int) ∈ lw_ok := lw_at 859 (by decide +kernel) rfl
theorem bd_X6_edge : pBd yX6_edge = (0, 0) := by decide +kernel
theorem pp_X6_edge : pPar yX6_edge 2 := ⟨by decide +kernel, by decide +kernel, by decide +kernel⟩
theorem im_X6_edge : Cond.instanceMethod yX6_edge ∈ lw_ok := lw_at 857 (by decide +kernel) rfl
theorem se_X6_edge : Cond.selects RX6 yX6_edge yX6_edge ∈ lw_ok := lw_at 858 (by decide +kernel) rfl
theorem cd_X6_truckAt : Cond.code yX6_truckAt cX6_truckAt 3 (some .int) ∈ lw_ok := lw_at 863 (by decide +kernel) rfl
theorem bd_X6_truckAt : pBd yX6_truckAt = (0, 0) := by decide +kernel
theorem pp_X6_truckAt : pPar yX6_truckAt 2 := ⟨by decide +kernel, by decide +kernel, by decide +kernel⟩
theorem im_X6_truckAt : Cond.instanceMethod yX6_truckAt ∈ lw_ok := lw_at 861 (by decide +kernel) rfl
theorem se_X6_truckAt : Cond.selects RX6 yX6_truckAt yX6_truckAt ∈ lw_ok := lw_at 862 (by decide +kernel) rfl
theorem cd_X6_isTruck : Cond.code yX6_isTruck cX6_isTruck 2 (some .boolean) ∈ lw_ok := lw_at 867 (by decide +kernel) rfl
theorem bd_X6_isTruck : pBd yX6_isTruck = (0, 0) := by decide +kernel
theorem pp_X6_isTruck : pPar yX6_isTruck 1 := ⟨by decide +kernel, by decide +kernel, by decide +kernel⟩
theorem im_X6_isTruck : Cond.instanceMethod yX6_isTruck ∈ lw_ok := lw_at 866 (by decide +kernel) rfl
theorem se_X6_isTruck : Cond.selects RX6 yX6_isTruck yX6_isTruck ∈ lw_ok := lw_at 47 (by decide +kernel) rfl
theorem cd_X6_mayBeLate : Cond.code yX6_mayBeLate cX6_mayBeLate 5 (some .int) ∈ lw_ok := lw_at 871 (by decide +kernel) rfl
theorem bd_X6_mayBeLate : pBd yX6_mayBeLate = (0, 0) := by decide +kernel
theorem pp_X6_mayBeLate : pPar yX6_mayBeLate 1 := ⟨by decide +kernel, by decide +kernel, by decide +kernel⟩
theorem im_X6_mayBeLate : Cond.instanceMethod yX6_mayBeLate ∈ lw_ok := lw_at 870 (by decide +kernel) rfl
theorem se_X6_mayBeLate : Cond.selects RX6 yX6_mayBeLate yX6_mayBeLate ∈ lw_ok := lw_at 48 (by decide +kernel) rfl
theorem cd_X6_build : Cond.code yX6_build cX6_build 4 (some .int) ∈ lw_ok := lw_at 875 (by decide +kernel) rfl
theorem bd_X6_build : pBd yX6_build = (0, 0) := by decide +kernel
theorem pp_X6_build : pPar yX6_build 2 := ⟨by decide +kernel, by decide +kernel, by decide +kernel⟩
theorem im_X6_build : Cond.instanceMethod yX6_build ∈ lw_ok := lw_at 873 (by decide +kernel) rfl
theorem se_X6_build : Cond.selects RX6 yX6_build yX6_build ∈ lw_ok := lw_at 874 (by decide +kernel) rfl
theorem cd_X6_ones : Cond.code yX6_ones cX6_ones 3 (some .int) ∈ lw_ok := lw_at 879 (by decide +kernel) rfl
theorem bd_X6_ones : pBd yX6_ones = (0, 0) := by decide +kernel
theorem pp_X6_ones : pPar yX6_ones 1 := ⟨by decide +kernel, by decide +kernel, by decide +kernel⟩
theorem sm_X6_ones : Cond.static yX6_ones ∈ lw_ok := lw_at 878 (by decide +kernel) rfl
theorem cd_X6_minds : Cond.code yX6_minds cX6_minds 2 none ∈ lw_ok := lw_at 883 (by decide +kernel) rfl
theorem bd_X6_minds : pBd yX6_minds = (0, 0) := by decide +kernel
theorem pp_X6_minds : pPar yX6_minds 0 := ⟨by decide +kernel, by decide +kernel, by decide +kernel⟩
theorem im_X6_minds : Cond.instanceMethod yX6_minds ∈ lw_ok := lw_at 882 (by decide +kernel) rfl
theorem se_X6_minds : Cond.selects RX6 yX6_minds yX6_minds ∈ lw_ok := lw_at 49 (by decide +kernel) rfl
theorem cd_X6_truck : Cond.code yX6_truck cX6_truck 3 (some .int) ∈ lw_ok := lw_at 887 (by decide +kernel) rfl
theorem bd_X6_truck : pBd yX6_truck = (0, 0) := by decide +kernel
theorem pp_X6_truck : pPar yX6_truck 2 := ⟨by decide +kernel, by decide +kernel, by decide +kernel⟩
theorem im_X6_truck : Cond.instanceMethod yX6_truck ∈ lw_ok := lw_at 885 (by decide +kernel) rfl
theorem se_X6_truck : Cond.selects RX6 yX6_truck yX6_truck ∈ lw_ok := lw_at 886 (by decide +kernel) rfl
theorem cd_X6_comes : Cond.code yX6_comes cX6_comes 3 none ∈ lw_ok := lw_at 894 (by decide +kernel) rfl
theorem bd_X6_comes : pBd yX6_comes = (0, 0) := by decide +kernel
theorem pp_X6_comes : pPar yX6_comes 2 := ⟨by decide +kernel, by decide +kernel, by decide +kernel⟩
theorem im_X6_comes : Cond.instanceMethod yX6_comes ∈ lw_ok := lw_at 893 (by decide +kernel) rfl
theorem se_X6_comes : Cond.selects RX6 yX6_comes yX6_comes ∈ lw_ok := lw_at 50 (by decide +kernel) rfl
theorem cd_X6_late : Cond.code yX6_late cX6_late 3 (some .int) ∈ lw_ok := lw_at 898 (by decide +kernel) rfl
theorem bd_X6_late : pBd yX6_late = (0, 0) := by decide +kernel
theorem pp_X6_late : pPar yX6_late 2 := ⟨by decide +kernel, by decide +kernel, by decide +kernel⟩
theorem im_X6_late : Cond.instanceMethod yX6_late ∈ lw_ok := lw_at 896 (by decide +kernel) rfl
theorem se_X6_late : Cond.selects RX6 yX6_late yX6_late ∈ lw_ok := lw_at 897 (by decide +kernel) rfl
theorem cd_X6_away : Cond.code yX6_away cX6_away 4 (some .int) ∈ lw_ok := lw_at 904 (by decide +kernel) rfl
theorem bd_X6_away : pBd yX6_away = (0, 0) := by decide +kernel
theorem pp_X6_away : pPar yX6_away 1 := ⟨by decide +kernel, by decide +kernel, by decide +kernel⟩
theorem im_X6_away : Cond.instanceMethod yX6_away ∈ lw_ok := lw_at 902 (by decide +kernel) rfl
theorem se_X6_away : Cond.selects RX6 yX6_away yX6_away ∈ lw_ok := lw_at 903 (by decide +kernel) rfl
theorem cd_X6_need : Cond.code yX6_need cX6_need 4 (some .int) ∈ lw_ok := lw_at 908 (by decide +kernel) rfl
theorem bd_X6_need : pBd yX6_need = (0, 0) := by decide +kernel
theorem pp_X6_need : pPar yX6_need 2 := ⟨by decide +kernel, by decide +kernel, by decide +kernel⟩
theorem im_X6_need : Cond.instanceMethod yX6_need ∈ lw_ok := lw_at 906 (by decide +kernel) rfl
theorem se_X6_need : Cond.selects RX6 yX6_need yX6_need ∈ lw_ok := lw_at 907 (by decide +kernel) rfl
theorem cd_X6_bound : Cond.code yX6_bound cX6_bound 5 (some .int) ∈ lw_ok := lw_at 912 (by decide +kernel) rfl
theorem bd_X6_bound : pBd yX6_bound = (0, 0) := by decide +kernel
theorem pp_X6_bound : pPar yX6_bound 2 := ⟨by decide +kernel, by decide +kernel, by decide +kernel⟩
theorem im_X6_bound : Cond.instanceMethod yX6_bound ∈ lw_ok := lw_at 910 (by decide +kernel) rfl
theorem se_X6_bound : Cond.selects RX6 yX6_bound yX6_bound ∈ lw_ok := lw_at 911 (by decide +kernel) rfl
theorem cd_X6_pour : Cond.code yX6_pour cX6_pour 2 (some .int) ∈ lw_ok := lw_at 919 (by decide +kernel) rfl
theorem bd_X6_pour : pBd yX6_pour = (0, 0) := by decide +kernel
theorem pp_X6_pour : pPar yX6_pour 1 := ⟨by decide +kernel, by decide +kernel, by decide +kernel⟩
theorem im_X6_pour : Cond.instanceMethod yX6_pour ∈ lw_ok := lw_at 917 (by decide +kernel) rfl
theorem se_X6_pour : Cond.selects RX6 yX6_pour yX6_pour ∈ lw_ok := lw_at 918 (by decide +kernel) rfl
theorem cd_X6_rest : Cond.code yX6_rest cX6_rest 2 (some .int) ∈ lw_ok := lw_at 923 (by decide +kernel) rfl
theorem bd_X6_rest : pBd yX6_rest = (0, 0) := by decide +kernel
theorem pp_X6_rest : pPar yX6_rest 1 := ⟨by decide +kernel, by decide +kernel, by decide +kernel⟩
theorem im_X6_rest : Cond.instanceMethod yX6_rest ∈ lw_ok := lw_at 921 (by decide +kernel) rfl
theorem se_X6_rest : Cond.selects RX6 yX6_rest yX6_rest ∈ lw_ok := lw_at 922 (by decide +kernel) rfl
theorem cd_X6_follow : Cond.code yX6_follow cX6_follow 2 (some .int) ∈ lw_ok := lw_at 927 (by decide +kernel) rfl
theorem bd_X6_follow : pBd yX6_follow = (0, 0) := by decide +kernel
theorem pp_X6_follow : pPar yX6_follow 0 := ⟨by decide +kernel, by decide +kernel, by decide +kernel⟩
theorem im_X6_follow : Cond.instanceMethod yX6_follow ∈ lw_ok := lw_at 925 (by decide +kernel) rfl
theorem se_X6_follow : Cond.selects RX6 yX6_follow yX6_follow ∈ lw_ok := lw_at 926 (by decide +kernel) rfl
theorem cd_X6_drift : Cond.code yX6_drift cX6_drift 3 (some .int) ∈ lw_ok := lw_at 931 (by decide +kernel) rfl
theorem bd_X6_drift : pBd yX6_drift = (0, 0) := by decide +kernel
theorem pp_X6_drift : pPar yX6_drift 1 := ⟨by decide +kernel, by decide +kernel, by decide +kernel⟩
theorem im_X6_drift : Cond.instanceMethod yX6_drift ∈ lw_ok := lw_at 929 (by decide +kernel) rfl
theorem se_X6_drift : Cond.selects RX6 yX6_drift yX6_drift ∈ lw_ok := lw_at 930 (by decide +kernel) rfl
theorem cd_X6_draws : Cond.code yX6_draws cX6_draws 6 none ∈ lw_ok := lw_at 936 (by decide +kernel) rfl
theorem bd_X6_draws : pBd yX6_draws = (0, 0) := by decide +kernel
theorem pp_X6_draws : pPar yX6_draws 0 := ⟨by decide +kernel, by decide +kernel, by decide +kernel⟩
theorem im_X6_draws : Cond.instanceMethod yX6_draws ∈ lw_ok := lw_at 935 (by decide +kernel) rfl
theorem se_X6_draws : Cond.selects RX6 yX6_draws yX6_draws ∈ lw_ok := lw_at 51 (by decide +kernel) rfl
theorem cd_X6_draw : Cond.code yX6_draw cX6_draw 2 (some .int) ∈ lw_ok := lw_at 940 (by decide +kernel) rfl
theorem bd_X6_draw : pBd yX6_draw = (0, 0) := by decide +kernel
theorem pp_X6_draw : pPar yX6_draw 1 := ⟨by decide +kernel, by decide +kernel, by decide +kernel⟩
theorem im_X6_draw : Cond.instanceMethod yX6_draw ∈ lw_ok := lw_at 939 (by decide +kernel) rfl
theorem se_X6_draw : Cond.selects RX6 yX6_draw yX6_draw ∈ lw_ok := lw_at 52 (by decide +kernel) rfl
theorem cd_X6_undo : Cond.code yX6_undo cX6_undo 2 (some .int) ∈ lw_ok := lw_at 948 (by decide +kernel) rfl
theorem bd_X6_undo : pBd yX6_undo = (0, 0) := by decide +kernel
theorem pp_X6_undo : pPar yX6_undo 1 := ⟨by decide +kernel, by decide +kernel, by decide +kernel⟩
theorem im_X6_undo : Cond.instanceMethod yX6_undo ∈ lw_ok := lw_at 946 (by decide +kernel) rfl
theorem se_X6_undo : Cond.selects RX6 yX6_undo yX6_undo ∈ lw_ok := lw_at 947 (by decide +kernel) rfl
theorem cd_X6_best : Cond.code yX6_best cX6_best 2 (some .int) ∈ lw_ok := lw_at 952 (by decide +kernel) rfl
theorem bd_X6_best : pBd yX6_best = (0, 0) := by decide +kernel
theorem pp_X6_best : pPar yX6_best 1 := ⟨by decide +kernel, by decide +kernel, by decide +kernel⟩
theorem im_X6_best : Cond.instanceMethod yX6_best ∈ lw_ok := lw_at 950 (by decide +kernel) rfl
theorem se_X6_best : Cond.selects RX6 yX6_best yX6_best ∈ lw_ok := lw_at 951 (by decide +kernel) rfl
theorem cd_X6_stop : Cond.code yX6_stop cX6_stop 7 (some .int) ∈ lw_ok := lw_at 956 (by decide +kernel) rfl
theorem bd_X6_stop : pBd yX6_stop = (0, 0) := by decide +kernel
theorem pp_X6_stop : pPar yX6_stop 1 := ⟨by decide +kernel, by decide +kernel, by decide +kernel⟩
theorem im_X6_stop : Cond.instanceMethod yX6_stop ∈ lw_ok := lw_at 954 (by decide +kernel) rfl
theorem se_X6_stop : Cond.selects RX6 yX6_stop yX6_stop ∈ lw_ok := lw_at 955 (by decide +kernel) rfl
theorem cd_X6_write : Cond.code yX6_write cX6_write 3 (some .int) ∈ lw_ok := lw_at 960 (by decide +kernel) rfl
theorem bd_X6_write : pBd yX6_write = (0, 0) := by decide +kernel
theorem pp_X6_write : pPar yX6_write 2 := ⟨by decide +kernel, by decide +kernel, by decide +kernel⟩
theorem im_X6_write : Cond.instanceMethod yX6_write ∈ lw_ok := lw_at 958 (by decide +kernel) rfl
theorem se_X6_write : Cond.selects RX6 yX6_write yX6_write ∈ lw_ok := lw_at 959 (by decide +kernel) rfl
theorem cd_X6_tear : Cond.code yX6_tear cX6_tear 2 (some .int) ∈ lw_ok := lw_at 964 (by decide +kernel) rfl
theorem bd_X6_tear : pBd yX6_tear = (0, 0) := by decide +kernel
theorem pp_X6_tear : pPar yX6_tear 0 := ⟨by decide +kernel, by decide +kernel, by decide +kernel⟩
theorem im_X6_tear : Cond.instanceMethod yX6_tear ∈ lw_ok := lw_at 962 (by decide +kernel) rfl
theorem se_X6_tear : Cond.selects RX6 yX6_tear yX6_tear ∈ lw_ok := lw_at 963 (by decide +kernel) rfl
theorem cd_X6_seed : Cond.code yX6_seed cX6_seed 3 (some .int) ∈ lw_ok := lw_at 968 (by decide +kernel) rfl
theorem bd_X6_seed : pBd yX6_seed = (0, 0) := by decide +kernel
theorem pp_X6_seed : pPar yX6_seed 1 := ⟨by decide +kernel, by decide +kernel, by decide +kernel⟩
theorem im_X6_seed : Cond.instanceMethod yX6_seed ∈ lw_ok := lw_at 966 (by decide +kernel) rfl
theorem se_X6_seed : Cond.selects RX6 yX6_seed yX6_seed ∈ lw_ok := lw_at 967 (by decide +kernel) rfl
theorem cd_X6_keep : Cond.code yX6_keep cX6_keep 2 (some .int) ∈ lw_ok := lw_at 972 (by decide +kernel) rfl
theorem bd_X6_keep : pBd yX6_keep = (0, 0) := by decide +kernel
theorem pp_X6_keep : pPar yX6_keep 1 := ⟨by decide +kernel, by decide +kernel, by decide +kernel⟩
theorem im_X6_keep : Cond.instanceMethod yX6_keep ∈ lw_ok := lw_at 970 (by decide +kernel) rfl
theorem se_X6_keep : Cond.selects RX6 yX6_keep yX6_keep ∈ lw_ok := lw_at 971 (by decide +kernel) rfl
theorem cd_X6_goBack : Cond.code yX6_goBack cX6_goBack 2 (some .int) ∈ lw_ok := lw_at 976 (by decide +kernel) rfl
theorem bd_X6_goBack : pBd yX6_goBack = (0, 0) := by decide +kernel
theorem pp_X6_goBack : pPar yX6_goBack 1 := ⟨by decide +kernel, by decide +kernel, by decide +kernel⟩
theorem im_X6_goBack : Cond.instanceMethod yX6_goBack ∈ lw_ok := lw_at 974 (by decide +kernel) rfl
theorem se_X6_goBack : Cond.selects RX6 yX6_goBack yX6_goBack ∈ lw_ok := lw_at 975 (by decide +kernel) rfl
theorem ml_RL_9 : Cond.methodLink RL 9 yX5_init ∈ lw_ok := lw_at 65 (by decide +kernel) rfl
theorem ml_RX5_1 : Cond.methodLink RX5 1 objectInit ∈ lw_ok := lw_at 68 (by decide +kernel) rfl
theorem ml_RX5_9 : Cond.methodLink RX5 9 yX4_init ∈ lw_ok := lw_at 73 (by decide +kernel) rfl
theorem ml_RX4_3 : Cond.methodLink RX4 3 objectInit ∈ lw_ok := lw_at 76 (by decide +kernel) rfl
theorem ml_RX4_37 : Cond.methodLink RX4 37 yX4_raise ∈ lw_ok := lw_at 77 (by decide +kernel) rfl
theorem ml_RX4_47 : Cond.methodLink RX4 47 yJ9_min_7cf53 ∈ lw_ok := lw_at 81 (by decide +kernel) rfl
theorem ml_RX4_62 : Cond.methodLinkNest RX4 62 yX5_fillRow RX5 ∈ lw_tbl := List.mem_of_getElem? (i := 84) (by decide +kernel)
theorem ml_RX5_21 : Cond.methodLinkNest RX5 21 yX3_init RX5 ∈ lw_tbl := List.mem_of_getElem? (i := 154) (by decide +kernel)
theorem ml_RX3_3 : Cond.methodLink RX3 3 objectInit ∈ lw_ok := lw_at 157 (by decide +kernel) rfl
theorem ml_RX5_31 : Cond.methodLink RX5 31 yX1_init ∈ lw_ok := lw_at 218 (by decide +kernel) rfl
theorem ml_RX1_3 : Cond.methodLink RX1 3 objectInit ∈ lw_ok := lw_at 221 (by decide +kernel) rfl
theorem ml_RX1_17 : Cond.methodLink RX1 17 yX4_init ∈ lw_ok := lw_at 224 (by decide +kernel) rfl
theorem ml_RX5_38 : Cond.methodLinkNest RX5 38 yX0_init RX5 ∈ lw_tbl := List.mem_of_getElem? (i := 238) (by decide +kernel)
theorem ml_RX0_3 : Cond.methodLink RX0 3 objectInit ∈ lw_ok := lw_at 241 (by decide +kernel) rfl
theorem ml_RX5_49 : Cond.methodLinkNest RX5 49 yX2_init RX5 ∈ lw_tbl := List.mem_of_getElem? (i := 257) (by decide +kernel)
theorem ml_RX2_1 : Cond.methodLink RX2 1 objectInit ∈ lw_ok := lw_at 260 (by decide +kernel) rfl
theorem ml_RX2_9 : Cond.methodLink RX2 9 yX4_init ∈ lw_ok := lw_at 262 (by decide +kernel) rfl
theorem ml_RL_13 : Cond.methodLink RL 13 yX5_told ∈ lw_ok := lw_at 302 (by decide +kernel) rfl
theorem ml_RX5_63 : Cond.methodLink RX5 63 yX4_stock ∈ lw_ok := lw_at 306 (by decide +kernel) rfl
theorem ml_RX4_106 : Cond.methodLink RX4 106 yX4_broughtBy ∈ lw_ok := lw_at 310 (by decide +kernel) rfl
theorem ml_RX4_90 : Cond.methodLink RX4 90 yX4_usedLoads ∈ lw_ok := lw_at 314 (by decide +kernel) rfl
theorem ml_RX4_70 : Cond.methodLink RX4 70 yX4_isPoured ∈ lw_ok := lw_at 318 (by decide +kernel) rfl
theorem ml_RX5_67 : Cond.methodLink RX5 67 yX4_pouredSet ∈ lw_ok := lw_at 322 (by decide +kernel) rfl
theorem ml_RX5_70 : Cond.methodLink RX5 70 yX4_canSet ∈ lw_ok := lw_at 326 (by decide +kernel) rfl
theorem ml_RX4_84 : Cond.methodLink RX4 84 yX4_startOf ∈ lw_ok := lw_at 330 (by decide +kernel) rfl
theorem ml_RX4_87 : Cond.methodLink RX4 87 yX4_isCell ∈ lw_ok := lw_at 334 (by decide +kernel) rfl
theorem ml_RX4_93 : Cond.methodLink RX4 93 yX4_broughtAt ∈ lw_ok := lw_at 338 (by decide +kernel) rfl
theorem ml_RX4_96 : Cond.methodLink RX4 96 yJ9_max_7cf53 ∈ lw_ok := lw_at 342 (by decide +kernel) rfl
theorem ml_RX5_82 : Cond.methodLink RX5 82 yX4_joints ∈ lw_ok := lw_at 345 (by decide +kernel) rfl
theorem ml_RX4_121 : Cond.methodLink RX4 121 yX4_edges ∈ lw_ok := lw_at 349 (by decide +kernel) rfl
theorem ml_RX4_118 : Cond.methodLink RX4 118 yX4_isJoint ∈ lw_ok := lw_at 353 (by decide +kernel) rfl
theorem ml_RX4_112 : Cond.methodLink RX4 112 yX4_ageOf ∈ lw_ok := lw_at 357 (by decide +kernel) rfl
theorem ml_RX4_109 : Cond.methodLink RX4 109 yX4_across ∈ lw_ok := lw_at 361 (by decide +kernel) rfl
theorem ml_RX5_85 : Cond.methodLink RX5 85 yX4_harm ∈ lw_ok := lw_at 365 (by decide +kernel) rfl
theorem ml_RX4_124 : Cond.methodLink RX4 124 yX4_harmOf ∈ lw_ok := lw_at 369 (by decide +kernel) rfl
theorem ml_RX5_88 : Cond.methodLink RX5 88 yX4_firstToSet ∈ lw_ok := lw_at 373 (by decide +kernel) rfl
theorem ml_RX4_128 : Cond.methodLink RX4 128 yX4_timeLeft ∈ lw_ok := lw_at 378 (by decide +kernel) rfl
theorem ml_RX4_115 : Cond.methodLink RX4 115 yX4_isOpen ∈ lw_ok := lw_at 382 (by decide +kernel) rfl
theorem ml_RX5_91 : Cond.methodLink RX5 91 yX5_plan ∈ lw_ok := lw_at 386 (by decide +kernel) rfl
theorem ml_RX5_259 : Cond.methodLink RX5 259 yX3_search ∈ lw_ok := lw_at 391 (by decide +kernel) rfl
theorem ml_RX3_45 : Cond.methodLink RX3 45 yX3_readWall ∈ lw_ok := lw_at 395 (by decide +kernel) rfl
theorem ml_RX3_49 : Cond.methodLink RX3 49 yX3_readCells ∈ lw_ok := lw_at 399 (by decide +kernel) rfl
theorem ml_RX3_110 : Cond.methodLink RX3 110 yX4_isPoured ∈ lw_ok := lw_at 403 (by decide +kernel) rfl
theorem ml_RX3_115 : Cond.methodLink RX3 115 yJ9_min_7cf53 ∈ lw_ok := lw_at 405 (by decide +kernel) rfl
theorem ml_RX3_52 : Cond.methodLink RX3 52 yX3_readArrivals ∈ lw_ok := lw_at 406 (by decide +kernel) rfl
theorem ml_RX3_121 : Cond.methodLinkNest RX3 121 yX5_fillRow RX5 ∈ lw_tbl := List.mem_of_getElem? (i := 410) (by decide +kernel)
theorem ml_RX3_131 : Cond.methodLink RX3 131 yX4_broughtBy ∈ lw_ok := lw_at 411 (by decide +kernel) rfl
theorem ml_RX3_62 : Cond.methodLink RX3 62 yX3_arrivalOf ∈ lw_ok := lw_at 412 (by decide +kernel) rfl
theorem ml_RX3_71 : Cond.methodLink RX3 71 yX3_harmCovered ∈ lw_ok := lw_at 416 (by decide +kernel) rfl
theorem ml_RX3_134 : Cond.methodLink RX3 134 yX3_harmCovering ∈ lw_ok := lw_at 420 (by decide +kernel) rfl
theorem ml_RX3_75 : Cond.methodLink RX3 75 yX4_usedLoads ∈ lw_ok := lw_at 424 (by decide +kernel) rfl
theorem ml_RX3_78 : Cond.methodLink RX3 78 yX3_extend ∈ lw_ok := lw_at 425 (by decide +kernel) rfl
theorem ml_RX3_137 : Cond.methodLink RX3 137 yX3_take ∈ lw_ok := lw_at 429 (by decide +kernel) rfl
theorem ml_RX3_153 : Cond.methodLink RX3 153 yX3_mayBeBetter ∈ lw_ok := lw_at 433 (by decide +kernel) rfl
theorem ml_RX3_157 : Cond.methodLinkNest RX3 157 yX5_copyRow RX5 ∈ lw_tbl := List.mem_of_getElem? (i := 437) (by decide +kernel)
theorem ml_RX3_141 : Cond.methodLink RX3 141 yX3_isNext ∈ lw_ok := lw_at 440 (by decide +kernel) rfl
theorem ml_RX3_144 : Cond.methodLink RX3 144 yJ9_max_7cf53 ∈ lw_ok := lw_at 444 (by decide +kernel) rfl
theorem ml_RX3_147 : Cond.methodLink RX3 147 yX3_harmToCome ∈ lw_ok := lw_at 445 (by decide +kernel) rfl
theorem ml_RX3_150 : Cond.methodLink RX3 150 yX3_leastEnd ∈ lw_ok := lw_at 449 (by decide +kernel) rfl
theorem ml_RX5_95 : Cond.methodLink RX5 95 yX3_leastHarm ∈ lw_ok := lw_at 453 (by decide +kernel) rfl
theorem ml_RX5_98 : Cond.methodLink RX5 98 yX3_earliestEnd ∈ lw_ok := lw_at 457 (by decide +kernel) rfl
theorem ml_RX5_101 : Cond.methodLink RX5 101 yX5_mayWait ∈ lw_ok := lw_at 461 (by decide +kernel) rfl
theorem ml_RX5_224 : Cond.methodLink RX5 224 yX4_copyFrom ∈ lw_ok := lw_at 465 (by decide +kernel) rfl
theorem ml_RX4_66 : Cond.methodLinkNest RX4 66 yX5_copyRow RX5 ∈ lw_tbl := List.mem_of_getElem? (i := 469) (by decide +kernel)
theorem ml_RX5_269 : Cond.methodLink RX5 269 yX3_leastHarmIs ∈ lw_ok := lw_at 470 (by decide +kernel) rfl
theorem ml_RX3_27 : Cond.methodLink RX3 27 yX3_search ∈ lw_ok := lw_at 474 (by decide +kernel) rfl
theorem ml_RX5_104 : Cond.methodLink RX5 104 yX4_stoppedHarm ∈ lw_ok := lw_at 475 (by decide +kernel) rfl
theorem ml_RX5_110 : Cond.methodLink RX5 110 yX0_firstWrong ∈ lw_ok := lw_at 479 (by decide +kernel) rfl
theorem ml_RX0_27 : Cond.methodLink RX0 27 yX4_isEdge ∈ lw_ok := lw_at 483 (by decide +kernel) rfl
theorem ml_RX0_33 : Cond.methodLink RX0 33 yX4_isJoint ∈ lw_ok := lw_at 487 (by decide +kernel) rfl
theorem ml_RL_18 : Cond.methodLink RL 18 yX5_cell ∈ lw_ok := lw_at 489 (by decide +kernel) rfl
theorem ml_RX5_118 : Cond.methodLink RX5 118 yX4_isCell ∈ lw_ok := lw_at 493 (by decide +kernel) rfl
theorem ml_RX5_133 : Cond.methodLink RX5 133 yX4_startOf ∈ lw_ok := lw_at 495 (by decide +kernel) rfl
theorem ml_RX5_137 : Cond.methodLink RX5 137 yX5_harmBehind ∈ lw_ok := lw_at 496 (by decide +kernel) rfl
theorem ml_RX5_204 : Cond.methodLink RX5 204 yX4_fill ∈ lw_ok := lw_at 500 (by decide +kernel) rfl
theorem ml_RL_23 : Cond.methodLink RL 23 yX5_edge ∈ lw_ok := lw_at 504 (by decide +kernel) rfl
theorem ml_RX5_140 : Cond.methodLink RX5 140 yX4_isEdge ∈ lw_ok := lw_at 508 (by decide +kernel) rfl
theorem ml_RX5_143 : Cond.methodLink RX5 143 yX4_isOpen ∈ lw_ok := lw_at 509 (by decide +kernel) rfl
theorem ml_RX5_146 : Cond.methodLink RX5 146 yX4_isJoint ∈ lw_ok := lw_at 510 (by decide +kernel) rfl
theorem ml_RX5_149 : Cond.methodLink RX5 149 yX4_timeLeft ∈ lw_ok := lw_at 511 (by decide +kernel) rfl
theorem ml_RL_27 : Cond.methodLink RL 27 yX5_truckAt ∈ lw_ok := lw_at 512 (by decide +kernel) rfl
theorem ml_RX5_152 : Cond.methodLink RX5 152 yX4_isTruck ∈ lw_ok := lw_at 516 (by decide +kernel) rfl
theorem ml_RX5_161 : Cond.methodLink RX5 161 yX5_mayBeLate ∈ lw_ok := lw_at 520 (by decide +kernel) rfl
theorem ml_RX5_273 : Cond.methodLink RX5 273 yJ9_min_7cf53 ∈ lw_ok := lw_at 524 (by decide +kernel) rfl
theorem ml_RX5_263 : Cond.methodLink RX5 263 yX4_delay ∈ lw_ok := lw_at 525 (by decide +kernel) rfl
theorem ml_RX4_103 : Cond.methodLink RX4 103 yX4_isTruck ∈ lw_ok := lw_at 529 (by decide +kernel) rfl
theorem ml_RL_31 : Cond.methodLink RL 31 yX5_build ∈ lw_ok := lw_at 530 (by decide +kernel) rfl
theorem ml_RX5_164 : Cond.methodLink RX5 164 yX5_within ∈ lw_ok := lw_at 534 (by decide +kernel) rfl
theorem ml_RX5_168 : Cond.methodLink RX5 168 yX4_pouredCount ∈ lw_ok := lw_at 537 (by decide +kernel) rfl
theorem ml_RX4_74 : Cond.methodLink RX4 74 yX4_pouredSet ∈ lw_ok := lw_at 541 (by decide +kernel) rfl
theorem ml_RX4_78 : Cond.methodLink RX4 78 yJ6_bitCount_0f7a4 ∈ lw_ok := lw_at 542 (by decide +kernel) rfl
theorem ml_RX5_171 : Cond.methodLink RX5 171 yX5_beforeDeed ∈ lw_ok := lw_at 548 (by decide +kernel) rfl
theorem ml_RX5_255 : Cond.methodLink RX5 255 yX1_remember ∈ lw_ok := lw_at 552 (by decide +kernel) rfl
theorem ml_RX1_22 : Cond.methodLink RX1 22 yX4_copyFrom ∈ lw_ok := lw_at 556 (by decide +kernel) rfl
theorem ml_RX1_29 : Cond.methodLink RX1 29 yJ9_min_7cf53 ∈ lw_ok := lw_at 557 (by decide +kernel) rfl
theorem ml_RX5_174 : Cond.methodLink RX5 174 yX4_raise ∈ lw_ok := lw_at 558 (by decide +kernel) rfl
theorem ml_RL_35 : Cond.methodLink RL 35 yX5_truck ∈ lw_ok := lw_at 559 (by decide +kernel) rfl
theorem ml_RX5_178 : Cond.methodLink RX5 178 yX4_hasTruckRoom ∈ lw_ok := lw_at 563 (by decide +kernel) rfl
theorem ml_RX5_183 : Cond.methodLink RX5 183 yX4_addTruck ∈ lw_ok := lw_at 568 (by decide +kernel) rfl
theorem ml_RX4_99 : Cond.methodLink RX4 99 yX4_hasTruckRoom ∈ lw_ok := lw_at 572 (by decide +kernel) rfl
theorem ml_RL_39 : Cond.methodLink RL 39 yX5_late ∈ lw_ok := lw_at 573 (by decide +kernel) rfl
theorem ml_RX5_186 : Cond.methodLink RX5 186 yX5_stockIfLate ∈ lw_ok := lw_at 577 (by decide +kernel) rfl
theorem ml_RL_43 : Cond.methodLink RL 43 yX5_away ∈ lw_ok := lw_at 582 (by decide +kernel) rfl
theorem ml_RX5_191 : Cond.methodLink RX5 191 yX5_stockWithout ∈ lw_ok := lw_at 586 (by decide +kernel) rfl
theorem ml_RX5_194 : Cond.methodLink RX5 194 yX4_dropTruck ∈ lw_ok := lw_at 590 (by decide +kernel) rfl
theorem ml_RL_47 : Cond.methodLink RL 47 yX5_need ∈ lw_ok := lw_at 594 (by decide +kernel) rfl
theorem ml_RX5_198 : Cond.methodLink RX5 198 yX4_isPoured ∈ lw_ok := lw_at 598 (by decide +kernel) rfl
theorem ml_RL_51 : Cond.methodLink RL 51 yX5_bound ∈ lw_ok := lw_at 599 (by decide +kernel) rfl
theorem ml_RX5_201 : Cond.methodLink RX5 201 yX4_swapBound ∈ lw_ok := lw_at 603 (by decide +kernel) rfl
theorem ml_RL_55 : Cond.methodLink RL 55 yX5_pour ∈ lw_ok := lw_at 607 (by decide +kernel) rfl
theorem ml_RL_59 : Cond.methodLink RL 59 yX5_rest ∈ lw_ok := lw_at 611 (by decide +kernel) rfl
theorem ml_RL_63 : Cond.methodLink RL 63 yX5_follow ∈ lw_ok := lw_at 615 (by decide +kernel) rfl
theorem ml_RX5_207 : Cond.methodLink RX5 207 yX3_cellAt ∈ lw_ok := lw_at 619 (by decide +kernel) rfl
theorem ml_RL_68 : Cond.methodLink RL 68 yX5_drift ∈ lw_ok := lw_at 623 (by decide +kernel) rfl
theorem ml_RX5_210 : Cond.methodLink RX5 210 yX5_driftOnce ∈ lw_ok := lw_at 627 (by decide +kernel) rfl
theorem ml_RX5_285 : Cond.methodLink RX5 285 yX5_draw ∈ lw_ok := lw_at 631 (by decide +kernel) rfl
theorem ml_RX5_291 : Cond.methodLink RX5 291 yJ9_max_7cf53 ∈ lw_ok := lw_at 639 (by decide +kernel) rfl
theorem ml_RL_72 : Cond.methodLink RL 72 yX5_undo ∈ lw_ok := lw_at 640 (by decide +kernel) rfl
theorem ml_RX5_213 : Cond.methodLink RX5 213 yX1_takeBack ∈ lw_ok := lw_at 644 (by decide +kernel) rfl
theorem ml_RL_76 : Cond.methodLink RL 76 yX5_best ∈ lw_ok := lw_at 648 (by decide +kernel) rfl
theorem ml_RL_80 : Cond.methodLink RL 80 yX5_stop ∈ lw_ok := lw_at 652 (by decide +kernel) rfl
theorem ml_RL_84 : Cond.methodLink RL 84 yX5_write ∈ lw_ok := lw_at 656 (by decide +kernel) rfl
theorem ml_RX5_229 : Cond.methodLink RX5 229 yX0_hasRoom ∈ lw_ok := lw_at 660 (by decide +kernel) rfl
theorem ml_RX5_232 : Cond.methodLink RX5 232 yX0_enter ∈ lw_ok := lw_at 664 (by decide +kernel) rfl
theorem ml_RX0_23 : Cond.methodLink RX0 23 yX0_hasRoom ∈ lw_ok := lw_at 668 (by decide +kernel) rfl
theorem ml_RL_89 : Cond.methodLink RL 89 yX5_tear ∈ lw_ok := lw_at 669 (by decide +kernel) rfl
theorem ml_RL_93 : Cond.methodLink RL 93 yX5_seed ∈ lw_ok := lw_at 673 (by decide +kernel) rfl
theorem ml_RL_97 : Cond.methodLink RL 97 yX5_keep ∈ lw_ok := lw_at 677 (by decide +kernel) rfl
theorem ml_RX5_239 : Cond.methodLink RX5 239 yX5_imageAt ∈ lw_ok := lw_at 681 (by decide +kernel) rfl
theorem ml_RX5_252 : Cond.methodLink RX5 252 yX1_forget ∈ lw_ok := lw_at 685 (by decide +kernel) rfl
theorem ml_RL_101 : Cond.methodLink RL 101 yX5_goBack ∈ lw_ok := lw_at 689 (by decide +kernel) rfl
theorem ml_RL_12 : Cond.methodLink RL 12 yX6_init ∈ lw_ok := lw_at 695 (by decide +kernel) rfl
theorem ml_RX6_1 : Cond.methodLink RX6 1 objectInit ∈ lw_ok := lw_at 698 (by decide +kernel) rfl
theorem ml_RX6_35 : Cond.methodLink RX6 35 yX6_builds ∈ lw_ok := lw_at 699 (by decide +kernel) rfl
theorem ml_RL_17 : Cond.methodLink RL 17 yX6_told ∈ lw_ok := lw_at 746 (by decide +kernel) rfl
theorem ml_RX6_62 : Cond.methodLink RX6 62 yX6_brought ∈ lw_ok := lw_at 750 (by decide +kernel) rfl
theorem ml_RX6_58 : Cond.methodLink RX6 58 yX6_used ∈ lw_ok := lw_at 754 (by decide +kernel) rfl
theorem ml_RX6_54 : Cond.methodLink RX6 54 yX6_isPoured ∈ lw_ok := lw_at 758 (by decide +kernel) rfl
theorem ml_RX6_111 : Cond.methodLink RX6 111 yX6_poured ∈ lw_ok := lw_at 762 (by decide +kernel) rfl
theorem ml_RX6_46 : Cond.methodLink RX6 46 yX6_cells ∈ lw_ok := lw_at 766 (by decide +kernel) rfl
theorem ml_RX6_114 : Cond.methodLink RX6 114 yX6_can ∈ lw_ok := lw_at 770 (by decide +kernel) rfl
theorem ml_RX6_67 : Cond.methodLink RX6 67 yX6_beginOf ∈ lw_ok := lw_at 774 (by decide +kernel) rfl
theorem ml_RX6_117 : Cond.methodLink RX6 117 yX6_joints ∈ lw_ok := lw_at 779 (by decide +kernel) rfl
theorem ml_RX6_73 : Cond.methodLink RX6 73 yX6_isJoint ∈ lw_ok := lw_at 783 (by decide +kernel) rfl
theorem ml_RX6_70 : Cond.methodLink RX6 70 yX6_beyond ∈ lw_ok := lw_at 787 (by decide +kernel) rfl
theorem ml_RX6_50 : Cond.methodLink RX6 50 yX6_in ∈ lw_ok := lw_at 791 (by decide +kernel) rfl
theorem ml_RX6_82 : Cond.methodLink RX6 82 yX6_harm ∈ lw_ok := lw_at 794 (by decide +kernel) rfl
theorem ml_RX6_76 : Cond.methodLink RX6 76 yX6_isOpen ∈ lw_ok := lw_at 798 (by decide +kernel) rfl
theorem ml_RX6_120 : Cond.methodLink RX6 120 yX6_firstToSet ∈ lw_ok := lw_at 802 (by decide +kernel) rfl
theorem ml_RX6_79 : Cond.methodLink RX6 79 yX6_left ∈ lw_ok := lw_at 806 (by decide +kernel) rfl
theorem ml_RX6_123 : Cond.methodLink RX6 123 yX6_ofBest ∈ lw_ok := lw_at 810 (by decide +kernel) rfl
theorem ml_RX6_105 : Cond.methodLink RX6 105 yX6_finds ∈ lw_ok := lw_at 814 (by decide +kernel) rfl
theorem ml_RX6_43 : Cond.methodLink RX6 43 yX6_copy ∈ lw_ok := lw_at 818 (by decide +kernel) rfl
theorem ml_RX6_102 : Cond.methodLink RX6 102 yX6_seeks ∈ lw_ok := lw_at 822 (by decide +kernel) rfl
theorem ml_RX6_95 : Cond.methodLink RX6 95 yX6_weighs ∈ lw_ok := lw_at 826 (by decide +kernel) rfl
theorem ml_RX6_99 : Cond.methodLink RX6 99 yX6_pours ∈ lw_ok := lw_at 830 (by decide +kernel) rfl
theorem ml_RX6_126 : Cond.methodLink RX6 126 yX6_mayWait ∈ lw_ok := lw_at 834 (by decide +kernel) rfl
theorem ml_RX6_129 : Cond.methodLink RX6 129 yX6_wrong ∈ lw_ok := lw_at 838 (by decide +kernel) rfl
theorem ml_RL_22 : Cond.methodLink RL 22 yX6_cell ∈ lw_ok := lw_at 843 (by decide +kernel) rfl
theorem ml_RX6_133 : Cond.methodLink RX6 133 yX6_isCell ∈ lw_ok := lw_at 847 (by decide +kernel) rfl
theorem ml_RX6_138 : Cond.methodLink RX6 138 yX6_harmBehind ∈ lw_ok := lw_at 852 (by decide +kernel) rfl
theorem ml_RL_26 : Cond.methodLink RL 26 yX6_edge ∈ lw_ok := lw_at 856 (by decide +kernel) rfl
theorem ml_RL_30 : Cond.methodLink RL 30 yX6_truckAt ∈ lw_ok := lw_at 860 (by decide +kernel) rfl
theorem ml_RX6_141 : Cond.methodLink RX6 141 yX6_isTruck ∈ lw_ok := lw_at 864 (by decide +kernel) rfl
theorem ml_RX6_144 : Cond.methodLink RX6 144 yX6_mayBeLate ∈ lw_ok := lw_at 868 (by decide +kernel) rfl
theorem ml_RL_34 : Cond.methodLink RL 34 yX6_build ∈ lw_ok := lw_at 872 (by decide +kernel) rfl
theorem ml_RX6_149 : Cond.methodLink RX6 149 yX6_ones ∈ lw_ok := lw_at 877 (by decide +kernel) rfl
theorem ml_RX6_152 : Cond.methodLink RX6 152 yX6_minds ∈ lw_ok := lw_at 880 (by decide +kernel) rfl
theorem ml_RL_38 : Cond.methodLink RL 38 yX6_truck ∈ lw_ok := lw_at 884 (by decide +kernel) rfl
theorem ml_RX6_160 : Cond.methodLink RX6 160 yX6_comes ∈ lw_ok := lw_at 891 (by decide +kernel) rfl
theorem ml_RL_42 : Cond.methodLink RL 42 yX6_late ∈ lw_ok := lw_at 895 (by decide +kernel) rfl
theorem ml_RL_46 : Cond.methodLink RL 46 yX6_away ∈ lw_ok := lw_at 901 (by decide +kernel) rfl
theorem ml_RL_50 : Cond.methodLink RL 50 yX6_need ∈ lw_ok := lw_at 905 (by decide +kernel) rfl
theorem ml_RL_54 : Cond.methodLink RL 54 yX6_bound ∈ lw_ok := lw_at 909 (by decide +kernel) rfl
theorem ml_RL_58 : Cond.methodLink RL 58 yX6_pour ∈ lw_ok := lw_at 916 (by decide +kernel) rfl
theorem ml_RL_62 : Cond.methodLink RL 62 yX6_rest ∈ lw_ok := lw_at 920 (by decide +kernel) rfl
theorem ml_RL_67 : Cond.methodLink RL 67 yX6_follow ∈ lw_ok := lw_at 924 (by decide +kernel) rfl
theorem ml_RL_71 : Cond.methodLink RL 71 yX6_drift ∈ lw_ok := lw_at 928 (by decide +kernel) rfl
theorem ml_RX6_187 : Cond.methodLink RX6 187 yX6_draws ∈ lw_ok := lw_at 933 (by decide +kernel) rfl
theorem ml_RX6_182 : Cond.methodLink RX6 182 yX6_draw ∈ lw_ok := lw_at 937 (by decide +kernel) rfl
theorem ml_RL_75 : Cond.methodLink RL 75 yX6_undo ∈ lw_ok := lw_at 945 (by decide +kernel) rfl
theorem ml_RL_79 : Cond.methodLink RL 79 yX6_best ∈ lw_ok := lw_at 949 (by decide +kernel) rfl
theorem ml_RL_83 : Cond.methodLink RL 83 yX6_stop ∈ lw_ok := lw_at 953 (by decide +kernel) rfl
theorem ml_RL_88 : Cond.methodLink RL 88 yX6_write ∈ lw_ok := lw_at 957 (by decide +kernel) rfl
theorem ml_RL_92 : Cond.methodLink RL 92 yX6_tear ∈ lw_ok := lw_at 961 (by decide +kernel) rfl
theorem ml_RL_96 : Cond.methodLink RL 96 yX6_seed ∈ lw_ok := lw_at 965 (by decide +kernel) rfl
theorem ml_RL_100 : Cond.methodLink RL 100 yX6_keep ∈ lw_ok := lw_at 969 (by decide +kernel) rfl
theorem ml_RL_104 : Cond.methodLink RL 104 yX6_goBack ∈ lw_ok := lw_at 973 (by decide +kernel) rfl
end
section
/-! Steps in the land, ready to be used -/
/-- a call that is determined: it answers r, and the world is then (g2, σ2) -/
def Ca (d : Nat) (z : MethodName) (as : List pV) (g : pG) (σ : pM) (r : List pV) (g2 : pG) (σ2 : pM) : Prop := ∀ Q : pQ, Q r g2 σ2 → pCall d z as g σ Q
def gO (g : pG) (o ci : Nat) : Prop := o < g.1 ∧ (g.2.1 o).1 = ci
def gA (g : pG) (a kd n : Nat) : Prop := a < g.1 ∧ g.2.1 a = (kd, n)
def gR (g : pG) (o f x : Nat) : Prop := g.2.2 o f = some x
theorem ca_in {d : Nat} {z : MethodName} {as : List pV} {g g2 : pG} {σ σ2 : pM} {r : List pV} {cc : ByteArray} {nL : Nat} {rt : Option FieldType} (hc : Cond.code z cc nL rt ∈ lw_ok) (hb : pBd z = (0, 0)) (hpl : plainName z.cls = true) (hn : nL ≤ 40) (hs : (as.map pC).sum ≤ nL) (h : ∀ (Q : pQ) (P : pP), Clo (pCall d) z cc rt nL 0 0 Q P → Q r g2 σ2 → P 0 (pAg 0 as) [] g σ 0 0) : Ca (d + 1) z as g σ r g2 σ2 :=
  fun Q hQ => ⟨cc, nL, rt, hc, hpl, hn, hs, fun P hP => by rw [hb] at hP; exact h Q P hP hQ⟩
theorem mm0 {α : Type} {a : α} {t : List α} : a ∈ a :: t := List.mem_cons_self
theorem mm1 {α : Type} {a b : α} {t : List α} : a ∈ b :: a :: t := List.mem_cons_of_mem _ mm0
theorem mm2 {α : Type} {a b c : α} {t : List α} : a ∈ b :: c :: a :: t := List.mem_cons_of_mem _ mm1
theorem mm3 {α : Type} {a b c d : α} {t : List α} : a ∈ b :: c :: d :: a :: t := List.mem_cons_of_mem _ mm2
theorem mm4 {α : Type} {a b c d e : α} {t : List α} : a ∈ b :: c :: d :: e :: a :: t := List.mem_cons_of_mem _ mm3
theorem mm5 {α : Type} {a b c d e f : α} {t : List α} : a ∈ b :: c :: d :: e :: f :: a :: t := List.mem_cons_of_mem _ mm4
theorem mm6 {α : Type} {a b c d e f g : α} {t : List α} : a ∈ b :: c :: d :: e :: f :: g :: a :: t := List.mem_cons_of_mem _ mm5
theorem mm7 {α : Type} {a b c d e f g h : α} {t : List α} : a ∈ b :: c :: d :: e :: f :: g :: h :: a :: t := List.mem_cons_of_mem _ mm6
theorem mm8 {α : Type} {a b c d e f g h i : α} {t : List α} : a ∈ b :: c :: d :: e :: f :: g :: h :: i :: a :: t := List.mem_cons_of_mem _ mm7
theorem mm9 {α : Type} {a b c d e f g h i j : α} {t : List α} : a ∈ b :: c :: d :: e :: f :: g :: h :: i :: j :: a :: t := List.mem_cons_of_mem _ mm8
theorem mm10 {α : Type} {a b c d e f g h i j k : α} {t : List α} : a ∈ b :: c :: d :: e :: f :: g :: h :: i :: j :: k :: a :: t := List.mem_cons_of_mem _ mm9
/-- fewer locals, by their places -/
theorem pk_ls {ls ls2 : pL} (ks : List Nat) (h : ks.filterMap (fun k => ls[k]?) = ls2) : ∀ q ∈ ls2, q ∈ ls := by
  intro q hq
  rw [← h] at hq
  obtain ⟨k, -, hk⟩ := List.mem_filterMap.mp hq
  exact List.mem_of_getElem? hk
section GG
variable {d : Nat} {y : MethodName} {cc : ByteArray} {rt : Option FieldType} {nL bc bs : Nat} {Q : pQ} {P : pP} {pc : Nat} {ls : pL} {st : List pV} {g : pG} {σ : pM} {k n : Nat}
theorem x_iconst (hP : Clo (pCall d) y cc rt nL bc bs Q P) (q : Nat) {z : Int} (hd : decode cc pc = .ok (.iconst z, 1)) (hq : pc + 1 = q) (kk : P q ls (vI z :: st) g σ k n) : P pc ls st g σ k n := hP.iconst _ _ _ _ _ _ _ _ _ hd hq kk
theorem x_bipush (hP : Clo (pCall d) y cc rt nL bc bs Q P) (q : Nat) {z : Int} (hd : decode cc pc = .ok (.bipush z, 2)) (hq : pc + 2 = q) (hz : -128 ≤ z ∧ z < 128) (kk : P q ls (vI z :: st) g σ k n) : P pc ls st g σ k n := hP.bipush _ _ _ _ _ _ _ _ _ hd hq hz kk
theorem x_sipush (hP : Clo (pCall d) y cc rt nL bc bs Q P) (q : Nat) {z : Int} (hd : decode cc pc = .ok (.sipush z, 3)) (hq : pc + 3 = q) (hz : -32768 ≤ z ∧ z < 32768) (kk : P q ls (vI z :: st) g σ k n) : P pc ls st g σ k n := hP.sipush _ _ _ _ _ _ _ _ _ hd hq hz kk
theorem x_lconst (hP : Clo (pCall d) y cc rt nL bc bs Q P) (q : Nat) {z : Fin 2} (hd : decode cc pc = .ok (.lconst z, 1)) (hq : pc + 1 = q) (kk : P q ls (vJ ((z : Nat) : Int) :: st) g σ k n) : P pc ls st g σ k n := hP.lconst _ _ _ _ _ _ _ _ _ hd hq kk
theorem x_ldc (hP : Clo (pCall d) y cc rt nL bc bs Q P) (q : Nat) {i : Nat} {z : Int} (hd : decode cc pc = .ok (.ldc i, 2)) (hq : pc + 2 = q) (hc : Cond.constant y.cls i (iv z) ∈ lw_ok) (kk : P q ls (vI z :: st) g σ k n) : P pc ls st g σ k n := hP.ldc _ _ _ _ _ _ _ _ _ _ hd hq hc kk
theorem x_ldcw (hP : Clo (pCall d) y cc rt nL bc bs Q P) (q : Nat) {i : Nat} {z : Int} (hd : decode cc pc = .ok (.ldc_w i, 3)) (hq : pc + 3 = q) (hc : Cond.constant y.cls i (iv z) ∈ lw_ok) (kk : P q ls (vI z :: st) g σ k n) : P pc ls st g σ k n := hP.ldcw _ _ _ _ _ _ _ _ _ _ hd hq hc kk
theorem x_ldc2 (hP : Clo (pCall d) y cc rt nL bc bs Q P) (q : Nat) {i : Nat} {z : Int} (hd : decode cc pc = .ok (.ldc2_w i, 3)) (hq : pc + 3 = q) (hc : Cond.constantLong y.cls i (jv z) ∈ lw_ok) (kk : P q ls (vJ z :: st) g σ k n) : P pc ls st g σ k n := hP.ldc2 _ _ _ _ _ _ _ _ _ _ hd hq hc kk
theorem x_null (hP : Clo (pCall d) y cc rt nL bc bs Q P) (q : Nat) (hd : decode cc pc = .ok (.aconst_null, 1)) (hq : pc + 1 = q) (kk : P q ls (vR none :: st) g σ k n) : P pc ls st g σ k n := hP.null _ _ _ _ _ _ _ _ hd hq kk
theorem x_iloadn (hP : Clo (pCall d) y cc rt nL bc bs Q P) (q i : Nat) {j : Fin 4} {z : Int} (hd : decode cc pc = .ok (.iload_n j, 1)) (hq : pc + 1 = q) (hj : (j : Nat) = i) (hm : (i, vI z) ∈ ls) (kk : P q ls (vI z :: st) g σ k n) : P pc ls st g σ k n := hP.iloadn _ _ _ _ _ _ _ _ _ _ _ hd hq hj hm kk
theorem x_iload (hP : Clo (pCall d) y cc rt nL bc bs Q P) (q : Nat) {i : Nat} {z : Int} (hd : decode cc pc = .ok (.iload i, 2)) (hq : pc + 2 = q) (hm : (i, vI z) ∈ ls) (kk : P q ls (vI z :: st) g σ k n) : P pc ls st g σ k n := hP.iload _ _ _ _ _ _ _ _ _ _ hd hq hm kk
theorem x_aloadn (hP : Clo (pCall d) y cc rt nL bc bs Q P) (q i : Nat) {j : Fin 4} {r : Option Nat} (hd : decode cc pc = .ok (.aload_n j, 1)) (hq : pc + 1 = q) (hj : (j : Nat) = i) (hm : (i, vR r) ∈ ls) (kk : P q ls (vR r :: st) g σ k n) : P pc ls st g σ k n := hP.aloadn _ _ _ _ _ _ _ _ _ _ _ hd hq hj hm kk
theorem x_lloadn (hP : Clo (pCall d) y cc rt nL bc bs Q P) (q i : Nat) {j : Fin 4} {z : Int} (hd : decode cc pc = .ok (.lload_n j, 1)) (hq : pc + 1 = q) (hj : (j : Nat) = i) (hm : (i, vJ z) ∈ ls) (kk : P q ls (vJ z :: st) g σ k n) : P pc ls st g σ k n := hP.lloadn _ _ _ _ _ _ _ _ _ _ _ hd hq hj hm kk
theorem x_lload (hP : Clo (pCall d) y cc rt nL bc bs Q P) (q : Nat) {i : Nat} {z : Int} (hd : decode cc pc = .ok (.lload i, 2)) (hq : pc + 2 = q) (hm : (i, vJ z) ∈ ls) (kk : P q ls (vJ z :: st) g σ k n) : P pc ls st g σ k n := hP.lload _ _ _ _ _ _ _ _ _ _ hd hq hm kk
theorem x_istoren (hP : Clo (pCall d) y cc rt nL bc bs Q P) (q i : Nat) (ls2 : pL) {j : Fin 4} {z : Int} (hd : decode cc pc = .ok (.istore_n j, 1)) (hq : pc + 1 = q) (hj : (j : Nat) = i) (hn : i < nL) (h2 : ls.all (fun q => !(q.1 + 1 == i && pC q.2 == 2)) = true) (he : pSt i (vI z) ls = ls2) (kk : P q ls2 st g σ k n) : P pc ls (vI z :: st) g σ k n := hP.istoren _ _ _ _ _ _ _ _ _ _ _ _ hd hq hj hn h2 he kk
theorem x_istore (hP : Clo (pCall d) y cc rt nL bc bs Q P) (q : Nat) (ls2 : pL) {i : Nat} {z : Int} (hd : decode cc pc = .ok (.istore i, 2)) (hq : pc + 2 = q) (hn : i < nL) (h2 : ls.all (fun q => !(q.1 + 1 == i && pC q.2 == 2)) = true) (he : pSt i (vI z) ls = ls2) (kk : P q ls2 st g σ k n) : P pc ls (vI z :: st) g σ k n := hP.istore _ _ _ _ _ _ _ _ _ _ _ hd hq hn h2 he kk
theorem x_astoren (hP : Clo (pCall d) y cc rt nL bc bs Q P) (q i : Nat) (ls2 : pL) {j : Fin 4} {r : Option Nat} (hd : decode cc pc = .ok (.astore_n j, 1)) (hq : pc + 1 = q) (hj : (j : Nat) = i) (hn : i < nL) (h2 : ls.all (fun q => !(q.1 + 1 == i && pC q.2 == 2)) = true) (he : pSt i (vR r) ls = ls2) (kk : P q ls2 st g σ k n) : P pc ls (vR r :: st) g σ k n := hP.astoren _ _ _ _ _ _ _ _ _ _ _ _ hd hq hj hn h2 he kk
theorem x_iinc (hP : Clo (pCall d) y cc rt nL bc bs Q P) (q : Nat) (ls2 : pL) {i : Nat} {e z : Int} (hd : decode cc pc = .ok (.iinc i e, 3)) (hq : pc + 3 = q) (hm : (i, vI z) ∈ ls) (hn : i < nL) (h2 : ls.all (fun q => !(q.1 + 1 == i && pC q.2 == 2)) = true) (he : pSt i (vI (z + e)) ls = ls2) (kk : P q ls2 st g σ k n) : P pc ls st g σ k n := hP.iinc _ _ _ _ _ _ _ _ _ _ _ _ hd hq hm hn h2 he kk
theorem x_dup (hP : Clo (pCall d) y cc rt nL bc bs Q P) (q : Nat) {v : pV} (hd : decode cc pc = .ok (.dup, 1)) (hq : pc + 1 = q) (h1 : pC v = 1) (kk : P q ls (v :: v :: st) g σ k n) : P pc ls (v :: st) g σ k n := hP.dup _ _ _ _ _ _ _ _ _ hd hq h1 kk
theorem x_dup2 (hP : Clo (pCall d) y cc rt nL bc bs Q P) (q : Nat) {v u : pV} (hd : decode cc pc = .ok (.dup2, 1)) (hq : pc + 1 = q) (h1 : pC v = 1) (h2 : pC u = 1) (kk : P q ls (v :: u :: v :: u :: st) g σ k n) : P pc ls (v :: u :: st) g σ k n := hP.dup2 _ _ _ _ _ _ _ _ _ _ hd hq h1 h2 kk
theorem x_iadd (hP : Clo (pCall d) y cc rt nL bc bs Q P) (q : Nat) {a b : Int} (hd : decode cc pc = .ok (.iadd, 1)) (hq : pc + 1 = q) (kk : P q ls (vI (a + b) :: st) g σ k n) : P pc ls (vI b :: vI a :: st) g σ k n := hP.iadd _ _ _ _ _ _ _ _ _ _ hd hq kk
theorem x_isub (hP : Clo (pCall d) y cc rt nL bc bs Q P) (q : Nat) {a b : Int} (hd : decode cc pc = .ok (.isub, 1)) (hq : pc + 1 = q) (kk : P q ls (vI (a - b) :: st) g σ k n) : P pc ls (vI b :: vI a :: st) g σ k n := hP.isub _ _ _ _ _ _ _ _ _ _ hd hq kk
theorem x_imul (hP : Clo (pCall d) y cc rt nL bc bs Q P) (q : Nat) {a b : Int} (hd : decode cc pc = .ok (.imul, 1)) (hq : pc + 1 = q) (kk : P q ls (vI (a * b) :: st) g σ k n) : P pc ls (vI b :: vI a :: st) g σ k n := hP.imul _ _ _ _ _ _ _ _ _ _ hd hq kk
theorem x_ladd (hP : Clo (pCall d) y cc rt nL bc bs Q P) (q : Nat) {a b : Int} (hd : decode cc pc = .ok (.ladd, 1)) (hq : pc + 1 = q) (kk : P q ls (vJ (a + b) :: st) g σ k n) : P pc ls (vJ b :: vJ a :: st) g σ k n := hP.ladd _ _ _ _ _ _ _ _ _ _ hd hq kk
theorem x_lmul (hP : Clo (pCall d) y cc rt nL bc bs Q P) (q : Nat) {a b : Int} (hd : decode cc pc = .ok (.lmul, 1)) (hq : pc + 1 = q) (kk : P q ls (vJ (a * b) :: st) g σ k n) : P pc ls (vJ b :: vJ a :: st) g σ k n := hP.lmul _ _ _ _ _ _ _ _ _ _ hd hq kk
theorem x_idiv (hP : Clo (pCall d) y cc rt nL bc bs Q P) (q : Nat) {a b : Int} (hd : decode cc pc = .ok (.idiv, 1)) (hq : pc + 1 = q) (h1 : iR a) (h2 : iR b) (h3 : b ≠ 0) (kk : P q ls (vI (a.tdiv b) :: st) g σ k n) : P pc ls (vI b :: vI a :: st) g σ k n := hP.idiv _ _ _ _ _ _ _ _ _ _ hd hq h1 h2 h3 kk
theorem x_irem (hP : Clo (pCall d) y cc rt nL bc bs Q P) (q : Nat) {a b : Int} (hd : decode cc pc = .ok (.irem, 1)) (hq : pc + 1 = q) (h1 : iR a) (h2 : iR b) (h3 : b ≠ 0) (kk : P q ls (vI (a.tmod b) :: st) g σ k n) : P pc ls (vI b :: vI a :: st) g σ k n := hP.irem _ _ _ _ _ _ _ _ _ _ hd hq h1 h2 h3 kk
theorem x_lrem (hP : Clo (pCall d) y cc rt nL bc bs Q P) (q : Nat) {a b : Int} (hd : decode cc pc = .ok (.lrem, 1)) (hq : pc + 1 = q) (h1 : jR a) (h2 : jR b) (h3 : b ≠ 0) (kk : P q ls (vJ (a.tmod b) :: st) g σ k n) : P pc ls (vJ b :: vJ a :: st) g σ k n := hP.lrem _ _ _ _ _ _ _ _ _ _ hd hq h1 h2 h3 kk
theorem x_ishl (hP : Clo (pCall d) y cc rt nL bc bs Q P) (q : Nat) {a b : Int} (hd : decode cc pc = .ok (.ishl, 1)) (hq : pc + 1 = q) (h1 : 0 ≤ a ∧ 0 ≤ b ∧ b < 32 ∧ a * 2 ^ b.toNat < 4294967296) (kk : P q ls (vI (a * 2 ^ b.toNat) :: st) g σ k n) : P pc ls (vI b :: vI a :: st) g σ k n := hP.ishl _ _ _ _ _ _ _ _ _ _ hd hq h1.1 h1.2.1 h1.2.2.1 h1.2.2.2 kk
theorem x_ishr (hP : Clo (pCall d) y cc rt nL bc bs Q P) (q : Nat) {a b : Int} (hd : decode cc pc = .ok (.ishr, 1)) (hq : pc + 1 = q) (h1 : 0 ≤ a ∧ a < 2147483648 ∧ 0 ≤ b ∧ b < 32) (kk : P q ls (vI (a / 2 ^ b.toNat) :: st) g σ k n) : P pc ls (vI b :: vI a :: st) g σ k n := hP.ishr _ _ _ _ _ _ _ _ _ _ hd hq h1.1 h1.2.1 h1.2.2.1 h1.2.2.2 kk
theorem x_iushr (hP : Clo (pCall d) y cc rt nL bc bs Q P) (q : Nat) {a b : Int} (hd : decode cc pc = .ok (.iushr, 1)) (hq : pc + 1 = q) (h1 : 0 ≤ a ∧ a < 2147483648 ∧ 0 ≤ b ∧ b < 32) (kk : P q ls (vI (a / 2 ^ b.toNat) :: st) g σ k n) : P pc ls (vI b :: vI a :: st) g σ k n := hP.iushr _ _ _ _ _ _ _ _ _ _ hd hq h1.1 h1.2.1 h1.2.2.1 h1.2.2.2 kk
theorem x_ior (hP : Clo (pCall d) y cc rt nL bc bs Q P) (q : Nat) {a b : Int} (hd : decode cc pc = .ok (.ior, 1)) (hq : pc + 1 = q) (h1 : 0 ≤ a ∧ 0 ≤ b) (kk : P q ls (vI ((a.toNat ||| b.toNat : Nat) : Int) :: st) g σ k n) : P pc ls (vI b :: vI a :: st) g σ k n := hP.ior _ _ _ _ _ _ _ _ _ _ hd hq h1.1 h1.2 kk
theorem x_iand (hP : Clo (pCall d) y cc rt nL bc bs Q P) (q : Nat) {a b : Int} (hd : decode cc pc = .ok (.iand, 1)) (hq : pc + 1 = q) (h1 : 0 ≤ a ∧ 0 ≤ b) (kk : P q ls (vI ((a.toNat &&& b.toNat : Nat) : Int) :: st) g σ k n) : P pc ls (vI b :: vI a :: st) g σ k n := hP.iand _ _ _ _ _ _ _ _ _ _ hd hq h1.1 h1.2 kk
theorem x_iand31 (hP : Clo (pCall d) y cc rt nL bc bs Q P) (q : Nat) {a : Int} (hd : decode cc pc = .ok (.iand, 1)) (hq : pc + 1 = q) (kk : P q ls (vI (a % 32) :: st) g σ k n) : P pc ls (vI 31 :: vI a :: st) g σ k n := hP.iand31 _ _ _ _ _ _ _ _ _ hd hq kk
theorem x_land (hP : Clo (pCall d) y cc rt nL bc bs Q P) (q : Nat) {a b : Int} (hd : decode cc pc = .ok (.land, 1)) (hq : pc + 1 = q) (h1 : 0 ≤ a ∧ 0 ≤ b) (kk : P q ls (vJ ((a.toNat &&& b.toNat : Nat) : Int) :: st) g σ k n) : P pc ls (vJ b :: vJ a :: st) g σ k n := hP.land _ _ _ _ _ _ _ _ _ _ hd hq h1.1 h1.2 kk
theorem x_i2l (hP : Clo (pCall d) y cc rt nL bc bs Q P) (q : Nat) {a : Int} (hd : decode cc pc = .ok (.i2l, 1)) (hq : pc + 1 = q) (h1 : iR a) (kk : P q ls (vJ a :: st) g σ k n) : P pc ls (vI a :: st) g σ k n := hP.i2l _ _ _ _ _ _ _ _ _ hd hq h1 kk
theorem x_l2i (hP : Clo (pCall d) y cc rt nL bc bs Q P) (q : Nat) {a : Int} (hd : decode cc pc = .ok (.l2i, 1)) (hq : pc + 1 = q) (h1 : 0 ≤ a) (kk : P q ls (vI a :: st) g σ k n) : P pc ls (vJ a :: st) g σ k n := hP.l2i _ _ _ _ _ _ _ _ _ hd hq h1 kk
theorem x_lcmp (hP : Clo (pCall d) y cc rt nL bc bs Q P) (q : Nat) {a b : Int} (hd : decode cc pc = .ok (.lcmp, 1)) (hq : pc + 1 = q) (h1 : jR a) (h2 : jR b) (kk : P q ls (vI (if b < a then 1 else if a = b then 0 else -1) :: st) g σ k n) : P pc ls (vJ b :: vJ a :: st) g σ k n := hP.lcmp _ _ _ _ _ _ _ _ _ _ hd hq h1 h2 kk
theorem x_goto (hP : Clo (pCall d) y cc rt nL bc bs Q P) (q : Nat) {off : Int} (hd : decode cc pc = .ok (.goto off, 3)) (ht : (pc : Int) + off = (q : Int)) (kk : P q ls st g σ k n) : P pc ls st g σ k n := hP.goto _ _ _ _ _ _ _ _ _ hd ht kk
theorem x_icmp (hP : Clo (pCall d) y cc rt nL bc bs Q P) (q t : Nat) (p : Prop) {off : Int} {c : Jvm.ClassFile.Cond} {a b : Int} (hd : decode cc pc = .ok (.if_icmp c off, 3)) (hq : pc + 3 = q) (ht : (pc : Int) + off = (t : Int)) (h1 : iR a) (h2 : iR b) (hp : pCmp c a b = p) (kt : p → P t ls st g σ k n) (kf : ¬ p → P q ls st g σ k n) : P pc ls (vI b :: vI a :: st) g σ k n := hP.icmp _ _ _ _ _ _ _ _ _ _ _ _ _ hd hq ht h1 h2 (by rw [hp]; exact kt) (by rw [hp]; exact kf)
theorem x_ifc (hP : Clo (pCall d) y cc rt nL bc bs Q P) (q t : Nat) (p : Prop) {off : Int} {c : Jvm.ClassFile.Cond} {a : Int} (hd : decode cc pc = .ok (.ifCond c off, 3)) (hq : pc + 3 = q) (ht : (pc : Int) + off = (t : Int)) (h1 : iR a) (hp : pCmp c a 0 = p) (kt : p → P t ls st g σ k n) (kf : ¬ p → P q ls st g σ k n) : P pc ls (vI a :: st) g σ k n := hP.ifc _ _ _ _ _ _ _ _ _ _ _ _ hd hq ht h1 (by rw [hp]; exact kt) (by rw [hp]; exact kf)
theorem x_ifnn (hP : Clo (pCall d) y cc rt nL bc bs Q P) (q t : Nat) {off : Int} {r : Option Nat} (hd : decode cc pc = .ok (.ifnonnull off, 3)) (hq : pc + 3 = q) (ht : (pc : Int) + off = (t : Int)) (kt : r ≠ none → P t ls st g σ k n) (kf : r = none → P q ls st g σ k n) : P pc ls (vR r :: st) g σ k n := hP.ifnn _ _ _ _ _ _ _ _ _ _ _ hd hq ht kt kf
theorem x_tsw (hP : Clo (pCall d) y cc rt nL bc bs Q P) (t : Nat) {dflt lo hi : Int} {offs : Array Int} {len : Nat} {a : Int} (hd : decode cc pc = .ok (.tableswitch dflt lo hi offs, len)) (h1 : iR a) (ht : (pc : Int) + dflt = (t : Int)) (kt : (a < lo ∨ hi < a) → P t ls st g σ k n) (kf : ¬ (a < lo ∨ hi < a) → ∃ off : Int, ∃ u : Nat, offs[(a - lo).toNat]? = some off ∧ (pc : Int) + off = (u : Int) ∧ P u ls st g σ k n) : P pc ls (vI a :: st) g σ k n := hP.tsw _ 0 _ _ _ _ _ _ _ _ _ _ _ _ _ hd h1 ht kt kf
theorem x_lsw (hP : Clo (pCall d) y cc rt nL bc bs Q P) (q : Nat) {dflt : Int} {ps : Array (Int × Int)} {len : Nat} {a off : Int} (hd : decode cc pc = .ok (.lookupswitch dflt ps, len)) (h1 : iR a) (hp : (ps.toList.zip (ps.toList.drop 1)).all (fun (a, next) => a.1 < next.1) = true) (ho : Op.lookupswitch.offset ps.toList dflt a = off) (ht : (pc : Int) + off = (q : Int)) (kk : P q ls st g σ k n) : P pc ls (vI a :: st) g σ k n := hP.lsw _ _ _ _ _ _ _ _ _ _ _ _ _ hd h1 hp ho ht kk
theorem x_geti (hP : Clo (pCall d) y cc rt nL bc bs Q P) (q : Nat) {i o ci f : Nat} (hd : decode cc pc = .ok (.getfield i, 3)) (hq : pc + 3 = q) (hl : pFl y.cls i ci f) (ho : gO g o ci) (h7 : ci < 7) (hr : pF ci f = false) (kk : P q ls (vI (σ o f) :: st) g σ k n) : P pc ls (vR (some o) :: st) g σ k n := hP.getf _ _ _ _ _ _ _ _ _ _ _ _ hd hq ho.1 ho.2 h7 hl (by unfold pFV; rw [if_neg (by rw [hr]; decide)]; exact kk)
theorem x_getr (hP : Clo (pCall d) y cc rt nL bc bs Q P) (q x : Nat) {i o ci f : Nat} (hd : decode cc pc = .ok (.getfield i, 3)) (hq : pc + 3 = q) (hl : pFl y.cls i ci f) (ho : gO g o ci) (h7 : ci < 7) (hr : pF ci f = true) (hx : gR g o f x) (kk : P q ls (vR (some x) :: st) g σ k n) : P pc ls (vR (some o) :: st) g σ k n := hP.getf _ _ _ _ _ _ _ _ _ _ _ _ hd hq ho.1 ho.2 h7 hl (by unfold pFV; rw [if_pos hr, hx]; exact kk)
theorem x_putf (hP : Clo (pCall d) y cc rt nL bc bs Q P) (q : Nat) {i o ci f : Nat} {z : Int} (hd : decode cc pc = .ok (.putfield i, 3)) (hq : pc + 3 = q) (hl : pFl y.cls i ci f) (ho : gO g o ci) (h7 : ci < 7) (hr : pF ci f = false) (hf : pFin ci f = false) (hz : pZ ci f = true → z = 0 ∨ z = 1) (kk : P q ls st g (up2 σ o f z) k n) : P pc ls (vI z :: vR (some o) :: st) g σ k n := hP.putf _ _ _ _ _ _ _ _ _ _ _ _ _ hd hq ho.1 ho.2 h7 hl hr hf hz kk
theorem x_iald (hP : Clo (pCall d) y cc rt nL bc bs Q P) (q : Nat) {o len : Nat} {j : Int} (hd : decode cc pc = .ok (.iaload, 1)) (hq : pc + 1 = q) (ho : gA g o 7 len) (hlen : len < 2147483648) (hj : 0 ≤ j ∧ j < (len : Int)) (kk : P q ls (vI (σ o j.toNat) :: st) g σ k n) : P pc ls (vI j :: vR (some o) :: st) g σ k n := hP.iald _ _ _ _ _ _ _ _ _ _ hd hq ho.1 (Or.inl (by rw [ho.2])) hj.1 (by rw [ho.2]; exact hj.2) (by rw [ho.2]; exact hlen) kk
theorem x_xald (hP : Clo (pCall d) y cc rt nL bc bs Q P) (q : Nat) {o len : Nat} {j : Int} (hd : decode cc pc = .ok (.iaload, 1)) (hq : pc + 1 = q) (ho : gA g o 11 len) (hlen : len < 2147483648) (hj : 0 ≤ j ∧ j < (len : Int)) (kk : P q ls (vI (σ o j.toNat) :: st) g σ k n) : P pc ls (vI j :: vR (some o) :: st) g σ k n := hP.iald _ _ _ _ _ _ _ _ _ _ hd hq ho.1 (Or.inr (by rw [ho.2])) hj.1 (by rw [ho.2]; exact hj.2) (by rw [ho.2]; exact hlen) kk
theorem x_iast (hP : Clo (pCall d) y cc rt nL bc bs Q P) (q : Nat) {o len : Nat} {j z : Int} (hd : decode cc pc = .ok (.iastore, 1)) (hq : pc + 1 = q) (ho : gA g o 7 len) (hlen : len < 2147483648) (hj : 0 ≤ j ∧ j < (len : Int)) (kk : P q ls st g (up2 σ o j.toNat z) k n) : P pc ls (vI z :: vI j :: vR (some o) :: st) g σ k n := hP.iast _ _ _ _ _ _ _ _ _ _ _ hd hq ho.1 (by rw [ho.2]) hj.1 (by rw [ho.2]; exact hj.2) (by rw [ho.2]; exact hlen) kk
theorem x_zald (hP : Clo (pCall d) y cc rt nL bc bs Q P) (q : Nat) {o len : Nat} {j : Int} (hd : decode cc pc = .ok (.baload, 1)) (hq : pc + 1 = q) (ho : gA g o 8 len) (hlen : len < 2147483648) (hj : 0 ≤ j ∧ j < (len : Int)) (kk : P q ls (vI (σ o j.toNat) :: st) g σ k n) : P pc ls (vI j :: vR (some o) :: st) g σ k n := hP.zald _ _ _ _ _ _ _ _ _ _ hd hq ho.1 (by rw [ho.2]) hj.1 (by rw [ho.2]; exact hj.2) (by rw [ho.2]; exact hlen) kk
theorem x_zast (hP : Clo (pCall d) y cc rt nL bc bs Q P) (q : Nat) {o len : Nat} {j z : Int} (hd : decode cc pc = .ok (.bastore, 1)) (hq : pc + 1 = q) (ho : gA g o 8 len) (hlen : len < 2147483648) (hj : 0 ≤ j ∧ j < (len : Int)) (hz : z = 0 ∨ z = 1) (kk : P q ls st g (up2 σ o j.toNat z) k n) : P pc ls (vI z :: vI j :: vR (some o) :: st) g σ k n := hP.zast _ _ _ _ _ _ _ _ _ _ _ hd hq ho.1 (by rw [ho.2]) hj.1 (by rw [ho.2]; exact hj.2) (by rw [ho.2]; exact hlen) hz kk
theorem x_aald (hP : Clo (pCall d) y cc rt nL bc bs Q P) (q : Nat) {o kd len : Nat} {j : Int} (hd : decode cc pc = .ok (.aaload, 1)) (hq : pc + 1 = q) (ho : gA g o kd len) (hk : kd = 9 ∨ kd = 10) (hlen : len < 2147483648) (hj : 0 ≤ j ∧ j < (len : Int)) (kk : P q ls (vR (g.2.2 o j.toNat) :: st) g σ k n) : P pc ls (vI j :: vR (some o) :: st) g σ k n := hP.aald _ _ _ _ _ _ _ _ _ _ hd hq ho.1 (by rw [ho.2]; exact hk) hj.1 (by rw [ho.2]; exact hj.2) (by rw [ho.2]; exact hlen) kk
theorem x_alen (hP : Clo (pCall d) y cc rt nL bc bs Q P) (q : Nat) {o kd len : Nat} (hd : decode cc pc = .ok (.arraylength, 1)) (hq : pc + 1 = q) (ho : gA g o kd len) (hk : pArr kd) (kk : P q ls (vI (len : Int) :: st) g σ k n) : P pc ls (vR (some o) :: st) g σ k n := hP.alen _ _ _ _ _ _ _ _ _ hd hq ho.1 (by rw [ho.2]; exact hk) (by rw [ho.2]; exact kk)
theorem x_cv (hP : Clo (pCall d) y cc rt nL bc bs Q P) (q : Nat) (as : List pV) (st : List pV) {i o ci : Nat} {z : MethodName} {m : Nat} {st0 r : List pV} {g2 : pG} {σ2 : pM} (hd : decode cc pc = .ok (.invokevirtual i, 3)) (hq : pc + 3 = q) (ho : gO g o ci) (h7 : ci < 7) (hcl : vwCl[ci]?.map (fun q => q.1) = some z.cls) (w1 : Cond.methodLink y.cls i z ∈ lw_ok) (w2 : Cond.instanceMethod z ∈ lw_ok) (w3 : Cond.selects z.cls z z ∈ lw_ok) (w4 : Cond.initialized z.cls ∈ lw_ok) (hpar : pPar z m) (hbd : pBd z = (0, 0)) (hlen : as.length = m) (hst : st0 = as.reverse ++ vR (some o) :: st) (hb : k ≤ bc ∧ n ≤ bs) (hs : (st.map pC).sum ≤ 8) (hc : Ca d z (vR (some o) :: as) g σ r g2 σ2) (kk : P q ls (r ++ st) g2 σ2 k n) : P pc ls st0 g σ k n :=
  hP.callv _ _ _ _ _ _ _ _ _ _ _ _ _ _ _ hd hq ho.1 ho.2 h7 hcl w1 w2 w3 w4 hpar hlen hst (by rw [hbd]; exact hb.1) (by rw [hbd]; exact hb.2) hs (hc _ (by rw [hbd]; exact kk))
theorem x_cs (hP : Clo (pCall d) y cc rt nL bc bs Q P) (q : Nat) (as : List pV) (st : List pV) {i : Nat} {z : MethodName} {m : Nat} {st0 r : List pV} {g2 : pG} {σ2 : pM} (hd : decode cc pc = .ok (.invokestatic i, 3)) (hq : pc + 3 = q) (w1 : Cond.methodLink y.cls i z ∈ lw_ok) (w2 : Cond.static z ∈ lw_ok) (w4 : Cond.initialized z.cls ∈ lw_ok) (hpar : pPar z m) (hbd : pBd z = (0, 0)) (hlen : as.length = m) (hst : st0 = as.reverse ++ st) (hb : k ≤ bc ∧ n ≤ bs) (hs : (st.map pC).sum ≤ 8) (hc : Ca d z as g σ r g2 σ2) (kk : P q ls (r ++ st) g2 σ2 k n) : P pc ls st0 g σ k n :=
  hP.calls _ _ _ _ _ _ _ _ _ _ _ _ _ hd hq w1 w2 w4 hpar hlen hst (by rw [hbd]; exact hb.1) (by rw [hbd]; exact hb.2) hs (hc _ (by rw [hbd]; exact kk))
theorem x_csn (hP : Clo (pCall d) y cc rt nL bc bs Q P) (q : Nat) (as : List pV) (st : List pV) {i : Nat} {host : String} {z : MethodName} {m : Nat} {st0 r : List pV} {g2 : pG} {σ2 : pM} (hd : decode cc pc = .ok (.invokestatic i, 3)) (hq : pc + 3 = q) (w1 : Cond.methodLinkNest y.cls i z host ∈ lw_tbl) (w2 : Cond.static z ∈ lw_ok) (w4 : Cond.initialized z.cls ∈ lw_ok) (hpar : pPar z m) (hbd : pBd z = (0, 0)) (hlen : as.length = m) (hst : st0 = as.reverse ++ st) (hb : k ≤ bc ∧ n ≤ bs) (hs : (st.map pC).sum ≤ 8) (hc : Ca d z as g σ r g2 σ2) (kk : P q ls (r ++ st) g2 σ2 k n) : P pc ls st0 g σ k n :=
  hP.callsn _ _ _ _ _ _ _ _ _ _ _ _ _ _ hd hq w1 w2 w4 hpar hlen hst (by rw [hbd]; exact hb.1) (by rw [hbd]; exact hb.2) hs (hc _ (by rw [hbd]; exact kk))
theorem x_iret (hP : Clo (pCall d) y cc (some .int) nL bc bs Q P) {z : Int} (hd : decode cc pc = .ok (.ireturn, 1)) (hb : k ≤ bc ∧ n ≤ bs) (h : Q [vI z] g σ) : P pc ls [vI z] g σ k n := hP.iret _ 0 _ [] _ _ _ _ _ hd hb.1 hb.2 rfl h
theorem x_zret (hP : Clo (pCall d) y cc (some .boolean) nL bc bs Q P) {z : Int} (hd : decode cc pc = .ok (.ireturn, 1)) (hb : k ≤ bc ∧ n ≤ bs) (hz : z = 0 ∨ z = 1) (h : Q [vI z] g σ) : P pc ls [vI z] g σ k n := hP.zret _ 0 _ [] _ _ _ _ _ hd hb.1 hb.2 rfl hz h
theorem x_aret {C : String} (hP : Clo (pCall d) y cc (some (.object C)) nL bc bs Q P) {r : Option Nat} (hd : decode cc pc = .ok (.areturn, 1)) (hb : k ≤ bc ∧ n ≤ bs) (h : Q [vR r] g σ) : P pc ls [vR r] g σ k n := hP.aret _ 0 _ [] _ _ _ _ _ _ hd hb.1 hb.2 rfl h
theorem x_vret (hP : Clo (pCall d) y cc none nL bc bs Q P) (hd : decode cc pc = .ok (.return_, 1)) (hb : k ≤ bc ∧ n ≤ bs) (h : Q [] g σ) : P pc ls [] g σ k n := hP.vret _ 0 _ [] _ _ _ _ hd hb.1 hb.2 rfl h
theorem x_sub (hP : Clo (pCall d) y cc rt nL bc bs Q P) {ls2 : pL} (ks : List Nat) (h : ks.filterMap (fun k => ls[k]?) = ls2) (kk : P pc ls2 st g σ k n) : P pc ls st g σ k n := hP.sub _ 0 _ _ _ _ _ _ _ (pk_ls ks h) kk
end GG
end
