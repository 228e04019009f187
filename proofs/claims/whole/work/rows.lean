section
-- ===== PART A: goes FIRST, ahead of the names: the tables' words, and 'selects' of the private methods out of them =====
/-- a private method of a class that the tables say can be made, by its rows of tables_1 -/
def lw_okq (q : MethodName × Nat) : Prop := (q.1.cls ≠ "java/lang/invoke/MethodHandle" ∧ q.1.cls ≠ "java/lang/invoke/VarHandle") ∧ Cond.instantiable q.1.cls q.2 ∈ tables_1 ∧ Cond.privateMethod q.1 ∈ tables_1 ∧ Cond.instanceMethod q.1 ∈ tables_1
theorem lw_p0 : lw_okq (⟨"Stepscript", "freeRooms", "()V"⟩, 5) := ⟨⟨by decide +kernel, by decide +kernel⟩, List.mem_of_getElem? (i := 25) (by decide +kernel), List.mem_of_getElem? (i := 61) (by decide +kernel), List.mem_of_getElem? (i := 62) (by decide +kernel)⟩
theorem lw_p1 : lw_okq (⟨"Stepscript", "clashesAt", "(I)I"⟩, 5) := ⟨⟨by decide +kernel, by decide +kernel⟩, List.mem_of_getElem? (i := 25) (by decide +kernel), List.mem_of_getElem? (i := 89) (by decide +kernel), List.mem_of_getElem? (i := 90) (by decide +kernel)⟩
theorem lw_p2 : lw_okq (⟨"java/lang/Throwable", "fillInStackTrace", "(I)Ljava/lang/Throwable;"⟩, 6) := ⟨⟨by decide +kernel, by decide +kernel⟩, List.mem_of_getElem? (i := 181) (by decide +kernel), List.mem_of_getElem? (i := 179) (by decide +kernel), List.mem_of_getElem? (i := 180) (by decide +kernel)⟩
theorem lw_p3 : lw_okq (⟨"Stepscript", "isFirstPlace", "(II)Z"⟩, 5) := ⟨⟨by decide +kernel, by decide +kernel⟩, List.mem_of_getElem? (i := 25) (by decide +kernel), List.mem_of_getElem? (i := 262) (by decide +kernel), List.mem_of_getElem? (i := 263) (by decide +kernel)⟩
theorem lw_p4 : lw_okq (⟨"java/util/ArrayList", "add", "(Ljava/lang/Object;[Ljava/lang/Object;I)V"⟩, 3) := ⟨⟨by decide +kernel, by decide +kernel⟩, List.mem_of_getElem? (i := 33) (by decide +kernel), List.mem_of_getElem? (i := 314) (by decide +kernel), List.mem_of_getElem? (i := 315) (by decide +kernel)⟩
theorem lw_p5 : lw_okq (⟨"java/util/ArrayList", "grow", "()[Ljava/lang/Object;"⟩, 3) := ⟨⟨by decide +kernel, by decide +kernel⟩, List.mem_of_getElem? (i := 33) (by decide +kernel), List.mem_of_getElem? (i := 318) (by decide +kernel), List.mem_of_getElem? (i := 319) (by decide +kernel)⟩
theorem lw_p6 : lw_okq (⟨"java/util/ArrayList", "grow", "(I)[Ljava/lang/Object;"⟩, 3) := ⟨⟨by decide +kernel, by decide +kernel⟩, List.mem_of_getElem? (i := 33) (by decide +kernel), List.mem_of_getElem? (i := 322) (by decide +kernel), List.mem_of_getElem? (i := 323) (by decide +kernel)⟩
theorem lw_p7 : lw_okq (⟨"Stepscript", "needDancer", "(I)V"⟩, 5) := ⟨⟨by decide +kernel, by decide +kernel⟩, List.mem_of_getElem? (i := 25) (by decide +kernel), List.mem_of_getElem? (i := 374) (by decide +kernel), List.mem_of_getElem? (i := 375) (by decide +kernel)⟩
theorem lw_p8 : lw_okq (⟨"Stepscript", "isOut", "(I)Z"⟩, 5) := ⟨⟨by decide +kernel, by decide +kernel⟩, List.mem_of_getElem? (i := 25) (by decide +kernel), List.mem_of_getElem? (i := 448) (by decide +kernel), List.mem_of_getElem? (i := 449) (by decide +kernel)⟩
theorem lw_p9 : lw_okq (⟨"Stepscript", "stateOf", "(LStepscript$Lift;)I"⟩, 5) := ⟨⟨by decide +kernel, by decide +kernel⟩, List.mem_of_getElem? (i := 25) (by decide +kernel), List.mem_of_getElem? (i := 489) (by decide +kernel), List.mem_of_getElem? (i := 490) (by decide +kernel)⟩
theorem lw_p10 : lw_okq (⟨"Stepscript", "isFreeFor", "(LStepscript$Lift;I)Z"⟩, 5) := ⟨⟨by decide +kernel, by decide +kernel⟩, List.mem_of_getElem? (i := 25) (by decide +kernel), List.mem_of_getElem? (i := 493) (by decide +kernel), List.mem_of_getElem? (i := 494) (by decide +kernel)⟩
theorem lw_p11 : lw_okq (⟨"Stepscript", "liftsWith", "(III)I"⟩, 5) := ⟨⟨by decide +kernel, by decide +kernel⟩, List.mem_of_getElem? (i := 25) (by decide +kernel), List.mem_of_getElem? (i := 497) (by decide +kernel), List.mem_of_getElem? (i := 498) (by decide +kernel)⟩
theorem lw_p12 : lw_okq (⟨"Stepscript", "isBesideLifted", "(LStepscript$Lift;I)Z"⟩, 5) := ⟨⟨by decide +kernel, by decide +kernel⟩, List.mem_of_getElem? (i := 25) (by decide +kernel), List.mem_of_getElem? (i := 509) (by decide +kernel), List.mem_of_getElem? (i := 510) (by decide +kernel)⟩
theorem lw_p13 : lw_okq (⟨"Stepscript", "lastOf", "(I)I"⟩, 5) := ⟨⟨by decide +kernel, by decide +kernel⟩, List.mem_of_getElem? (i := 25) (by decide +kernel), List.mem_of_getElem? (i := 530) (by decide +kernel), List.mem_of_getElem? (i := 531) (by decide +kernel)⟩
theorem lw_p14 : lw_okq (⟨"Stepscript", "lastsAheadOf", "(I)J"⟩, 5) := ⟨⟨by decide +kernel, by decide +kernel⟩, List.mem_of_getElem? (i := 25) (by decide +kernel), List.mem_of_getElem? (i := 555) (by decide +kernel), List.mem_of_getElem? (i := 556) (by decide +kernel)⟩
theorem lw_p15 : lw_okq (⟨"Stepscript", "partsIn", "(II)I"⟩, 5) := ⟨⟨by decide +kernel, by decide +kernel⟩, List.mem_of_getElem? (i := 25) (by decide +kernel), List.mem_of_getElem? (i := 580) (by decide +kernel), List.mem_of_getElem? (i := 581) (by decide +kernel)⟩
def lw_privs_1 : List (MethodName × Nat) := [(⟨"Stepscript", "freeRooms", "()V"⟩, 5), (⟨"Stepscript", "clashesAt", "(I)I"⟩, 5), (⟨"java/lang/Throwable", "fillInStackTrace", "(I)Ljava/lang/Throwable;"⟩, 6), (⟨"Stepscript", "isFirstPlace", "(II)Z"⟩, 5), (⟨"java/util/ArrayList", "add", "(Ljava/lang/Object;[Ljava/lang/Object;I)V"⟩, 3), (⟨"java/util/ArrayList", "grow", "()[Ljava/lang/Object;"⟩, 3), (⟨"java/util/ArrayList", "grow", "(I)[Ljava/lang/Object;"⟩, 3), (⟨"Stepscript", "needDancer", "(I)V"⟩, 5), (⟨"Stepscript", "isOut", "(I)Z"⟩, 5), (⟨"Stepscript", "stateOf", "(LStepscript$Lift;)I"⟩, 5), (⟨"Stepscript", "isFreeFor", "(LStepscript$Lift;I)Z"⟩, 5), (⟨"Stepscript", "liftsWith", "(III)I"⟩, 5), (⟨"Stepscript", "isBesideLifted", "(LStepscript$Lift;I)Z"⟩, 5), (⟨"Stepscript", "lastOf", "(I)I"⟩, 5), (⟨"Stepscript", "lastsAheadOf", "(I)J"⟩, 5), (⟨"Stepscript", "partsIn", "(II)I"⟩, 5)]
theorem lw_r1 : ∀ q ∈ lw_privs_1, lw_okq q := List.forall_mem_cons.mpr ⟨lw_p0, List.forall_mem_cons.mpr ⟨lw_p1, List.forall_mem_cons.mpr ⟨lw_p2, List.forall_mem_cons.mpr ⟨lw_p3, List.forall_mem_cons.mpr ⟨lw_p4, List.forall_mem_cons.mpr ⟨lw_p5, List.forall_mem_cons.mpr ⟨lw_p6, List.forall_mem_cons.mpr ⟨lw_p7, List.forall_mem_cons.mpr ⟨lw_p8, List.forall_mem_cons.mpr ⟨lw_p9, List.forall_mem_cons.mpr ⟨lw_p10, List.forall_mem_cons.mpr ⟨lw_p11, List.forall_mem_cons.mpr ⟨lw_p12, List.forall_mem_cons.mpr ⟨lw_p13, List.forall_mem_cons.mpr ⟨lw_p14, List.forall_mem_cons.mpr ⟨lw_p15, fun _ h => absurd h List.not_mem_nil⟩⟩⟩⟩⟩⟩⟩⟩⟩⟩⟩⟩⟩⟩⟩⟩
theorem lw_p16 : lw_okq (⟨"Stepscript", "pointsFor", "(III)I"⟩, 5) := ⟨⟨by decide +kernel, by decide +kernel⟩, List.mem_of_getElem? (i := 25) (by decide +kernel), List.mem_of_getElem? (i := 584) (by decide +kernel), List.mem_of_getElem? (i := 585) (by decide +kernel)⟩
theorem lw_p17 : lw_okq (⟨"Stepscript", "isAnyBusy", "(II)Z"⟩, 5) := ⟨⟨by decide +kernel, by decide +kernel⟩, List.mem_of_getElem? (i := 25) (by decide +kernel), List.mem_of_getElem? (i := 593) (by decide +kernel), List.mem_of_getElem? (i := 594) (by decide +kernel)⟩
theorem lw_p18 : lw_okq (⟨"Stepscript", "canKneesBear", "(III)Z"⟩, 5) := ⟨⟨by decide +kernel, by decide +kernel⟩, List.mem_of_getElem? (i := 25) (by decide +kernel), List.mem_of_getElem? (i := 598) (by decide +kernel), List.mem_of_getElem? (i := 599) (by decide +kernel)⟩
theorem lw_p19 : lw_okq (⟨"Stepscript", "chargeKnees", "(III)V"⟩, 5) := ⟨⟨by decide +kernel, by decide +kernel⟩, List.mem_of_getElem? (i := 25) (by decide +kernel), List.mem_of_getElem? (i := 606) (by decide +kernel), List.mem_of_getElem? (i := 607) (by decide +kernel)⟩
theorem lw_p20 : lw_okq (⟨"Stepscript", "dropLiftsOf", "(I)V"⟩, 5) := ⟨⟨by decide +kernel, by decide +kernel⟩, List.mem_of_getElem? (i := 25) (by decide +kernel), List.mem_of_getElem? (i := 631) (by decide +kernel), List.mem_of_getElem? (i := 632) (by decide +kernel)⟩
theorem lw_p21 : lw_okq (⟨"Stepscript", "replaceIn", "(LStepscript$Lift;I)I"⟩, 5) := ⟨⟨by decide +kernel, by decide +kernel⟩, List.mem_of_getElem? (i := 25) (by decide +kernel), List.mem_of_getElem? (i := 636) (by decide +kernel), List.mem_of_getElem? (i := 637) (by decide +kernel)⟩
theorem lw_p22 : lw_okq (⟨"Stepscript", "movesNeeded", "(LStepscript$Lift;II)I"⟩, 5) := ⟨⟨by decide +kernel, by decide +kernel⟩, List.mem_of_getElem? (i := 25) (by decide +kernel), List.mem_of_getElem? (i := 640) (by decide +kernel), List.mem_of_getElem? (i := 641) (by decide +kernel)⟩
theorem lw_p23 : lw_okq (⟨"StepscriptModel", "frees", "()V"⟩, 17) := ⟨⟨by decide +kernel, by decide +kernel⟩, List.mem_of_getElem? (i := 667) (by decide +kernel), List.mem_of_getElem? (i := 673) (by decide +kernel), List.mem_of_getElem? (i := 674) (by decide +kernel)⟩
theorem lw_p24 : lw_okq (⟨"StepscriptModel", "in", "(III)Z"⟩, 17) := ⟨⟨by decide +kernel, by decide +kernel⟩, List.mem_of_getElem? (i := 667) (by decide +kernel), List.mem_of_getElem? (i := 737) (by decide +kernel), List.mem_of_getElem? (i := 738) (by decide +kernel)⟩
theorem lw_p25 : lw_okq (⟨"StepscriptModel", "holds", "(I)Z"⟩, 17) := ⟨⟨by decide +kernel, by decide +kernel⟩, List.mem_of_getElem? (i := 667) (by decide +kernel), List.mem_of_getElem? (i := 741) (by decide +kernel), List.mem_of_getElem? (i := 742) (by decide +kernel)⟩
theorem lw_p26 : lw_okq (⟨"StepscriptModel", "isDancer", "(I)Z"⟩, 17) := ⟨⟨by decide +kernel, by decide +kernel⟩, List.mem_of_getElem? (i := 667) (by decide +kernel), List.mem_of_getElem? (i := 749) (by decide +kernel), List.mem_of_getElem? (i := 750) (by decide +kernel)⟩
theorem lw_p27 : lw_okq (⟨"StepscriptModel", "isCount", "(I)Z"⟩, 17) := ⟨⟨by decide +kernel, by decide +kernel⟩, List.mem_of_getElem? (i := 667) (by decide +kernel), List.mem_of_getElem? (i := 753) (by decide +kernel), List.mem_of_getElem? (i := 754) (by decide +kernel)⟩
theorem lw_p28 : lw_okq (⟨"StepscriptModel", "y", "(II)I"⟩, 17) := ⟨⟨by decide +kernel, by decide +kernel⟩, List.mem_of_getElem? (i := 667) (by decide +kernel), List.mem_of_getElem? (i := 761) (by decide +kernel), List.mem_of_getElem? (i := 762) (by decide +kernel)⟩
theorem lw_p29 : lw_okq (⟨"StepscriptModel", "x", "(II)I"⟩, 17) := ⟨⟨by decide +kernel, by decide +kernel⟩, List.mem_of_getElem? (i := 667) (by decide +kernel), List.mem_of_getElem? (i := 765) (by decide +kernel), List.mem_of_getElem? (i := 766) (by decide +kernel)⟩
theorem lw_p30 : lw_okq (⟨"StepscriptModel", "clash", "(I)I"⟩, 17) := ⟨⟨by decide +kernel, by decide +kernel⟩, List.mem_of_getElem? (i := 667) (by decide +kernel), List.mem_of_getElem? (i := 777) (by decide +kernel), List.mem_of_getElem? (i := 778) (by decide +kernel)⟩
theorem lw_p31 : lw_okq (⟨"StepscriptModel", "isAt", "(IIII)Z"⟩, 17) := ⟨⟨by decide +kernel, by decide +kernel⟩, List.mem_of_getElem? (i := 667) (by decide +kernel), List.mem_of_getElem? (i := 781) (by decide +kernel), List.mem_of_getElem? (i := 782) (by decide +kernel)⟩
def lw_privs_2 : List (MethodName × Nat) := [(⟨"Stepscript", "pointsFor", "(III)I"⟩, 5), (⟨"Stepscript", "isAnyBusy", "(II)Z"⟩, 5), (⟨"Stepscript", "canKneesBear", "(III)Z"⟩, 5), (⟨"Stepscript", "chargeKnees", "(III)V"⟩, 5), (⟨"Stepscript", "dropLiftsOf", "(I)V"⟩, 5), (⟨"Stepscript", "replaceIn", "(LStepscript$Lift;I)I"⟩, 5), (⟨"Stepscript", "movesNeeded", "(LStepscript$Lift;II)I"⟩, 5), (⟨"StepscriptModel", "frees", "()V"⟩, 17), (⟨"StepscriptModel", "in", "(III)Z"⟩, 17), (⟨"StepscriptModel", "holds", "(I)Z"⟩, 17), (⟨"StepscriptModel", "isDancer", "(I)Z"⟩, 17), (⟨"StepscriptModel", "isCount", "(I)Z"⟩, 17), (⟨"StepscriptModel", "y", "(II)I"⟩, 17), (⟨"StepscriptModel", "x", "(II)I"⟩, 17), (⟨"StepscriptModel", "clash", "(I)I"⟩, 17), (⟨"StepscriptModel", "isAt", "(IIII)Z"⟩, 17)]
theorem lw_r2 : ∀ q ∈ lw_privs_2, lw_okq q := List.forall_mem_cons.mpr ⟨lw_p16, List.forall_mem_cons.mpr ⟨lw_p17, List.forall_mem_cons.mpr ⟨lw_p18, List.forall_mem_cons.mpr ⟨lw_p19, List.forall_mem_cons.mpr ⟨lw_p20, List.forall_mem_cons.mpr ⟨lw_p21, List.forall_mem_cons.mpr ⟨lw_p22, List.forall_mem_cons.mpr ⟨lw_p23, List.forall_mem_cons.mpr ⟨lw_p24, List.forall_mem_cons.mpr ⟨lw_p25, List.forall_mem_cons.mpr ⟨lw_p26, List.forall_mem_cons.mpr ⟨lw_p27, List.forall_mem_cons.mpr ⟨lw_p28, List.forall_mem_cons.mpr ⟨lw_p29, List.forall_mem_cons.mpr ⟨lw_p30, List.forall_mem_cons.mpr ⟨lw_p31, fun _ h => absurd h List.not_mem_nil⟩⟩⟩⟩⟩⟩⟩⟩⟩⟩⟩⟩⟩⟩⟩⟩
theorem lw_p32 : lw_okq (⟨"StepscriptModel", "stands", "(I)Z"⟩, 17) := ⟨⟨by decide +kernel, by decide +kernel⟩, List.mem_of_getElem? (i := 667) (by decide +kernel), List.mem_of_getElem? (i := 797) (by decide +kernel), List.mem_of_getElem? (i := 798) (by decide +kernel)⟩
theorem lw_p33 : lw_okq (⟨"StepscriptModel", "isBeside", "(III)Z"⟩, 17) := ⟨⟨by decide +kernel, by decide +kernel⟩, List.mem_of_getElem? (i := 667) (by decide +kernel), List.mem_of_getElem? (i := 801) (by decide +kernel), List.mem_of_getElem? (i := 802) (by decide +kernel)⟩
theorem lw_p34 : lw_okq (⟨"StepscriptModel", "liftsOf", "(II)I"⟩, 17) := ⟨⟨by decide +kernel, by decide +kernel⟩, List.mem_of_getElem? (i := 667) (by decide +kernel), List.mem_of_getElem? (i := 805) (by decide +kernel), List.mem_of_getElem? (i := 806) (by decide +kernel)⟩
theorem lw_p35 : lw_okq (⟨"StepscriptModel", "isOf", "(II)Z"⟩, 17) := ⟨⟨by decide +kernel, by decide +kernel⟩, List.mem_of_getElem? (i := 667) (by decide +kernel), List.mem_of_getElem? (i := 809) (by decide +kernel), List.mem_of_getElem? (i := 810) (by decide +kernel)⟩
theorem lw_p36 : lw_okq (⟨"StepscriptModel", "lasts", "(I)I"⟩, 17) := ⟨⟨by decide +kernel, by decide +kernel⟩, List.mem_of_getElem? (i := 667) (by decide +kernel), List.mem_of_getElem? (i := 818) (by decide +kernel), List.mem_of_getElem? (i := 819) (by decide +kernel)⟩
theorem lw_p37 : lw_okq (⟨"StepscriptModel", "cost", "(III)I"⟩, 17) := ⟨⟨by decide +kernel, by decide +kernel⟩, List.mem_of_getElem? (i := 667) (by decide +kernel), List.mem_of_getElem? (i := 831) (by decide +kernel), List.mem_of_getElem? (i := 832) (by decide +kernel)⟩
theorem lw_p38 : lw_okq (⟨"StepscriptModel", "flat", "(I)I"⟩, 17) := ⟨⟨by decide +kernel, by decide +kernel⟩, List.mem_of_getElem? (i := 667) (by decide +kernel), List.mem_of_getElem? (i := 835) (by decide +kernel), List.mem_of_getElem? (i := 836) (by decide +kernel)⟩
theorem lw_p39 : lw_okq (⟨"StepscriptModel", "isBusy", "(II)Z"⟩, 17) := ⟨⟨by decide +kernel, by decide +kernel⟩, List.mem_of_getElem? (i := 667) (by decide +kernel), List.mem_of_getElem? (i := 839) (by decide +kernel), List.mem_of_getElem? (i := 840) (by decide +kernel)⟩
theorem lw_p40 : lw_okq (⟨"StepscriptModel", "mends", "(II)I"⟩, 17) := ⟨⟨by decide +kernel, by decide +kernel⟩, List.mem_of_getElem? (i := 667) (by decide +kernel), List.mem_of_getElem? (i := 855) (by decide +kernel), List.mem_of_getElem? (i := 856) (by decide +kernel)⟩
theorem lw_p41 : lw_okq (⟨"StepscriptModel", "canCome", "(III)Z"⟩, 17) := ⟨⟨by decide +kernel, by decide +kernel⟩, List.mem_of_getElem? (i := 667) (by decide +kernel), List.mem_of_getElem? (i := 859) (by decide +kernel), List.mem_of_getElem? (i := 860) (by decide +kernel)⟩
theorem lw_p42 : lw_okq (⟨"StepscriptModel", "comes", "(III)V"⟩, 17) := ⟨⟨by decide +kernel, by decide +kernel⟩, List.mem_of_getElem? (i := 667) (by decide +kernel), List.mem_of_getElem? (i := 863) (by decide +kernel), List.mem_of_getElem? (i := 864) (by decide +kernel)⟩
def lw_privs_3 : List (MethodName × Nat) := [(⟨"StepscriptModel", "stands", "(I)Z"⟩, 17), (⟨"StepscriptModel", "isBeside", "(III)Z"⟩, 17), (⟨"StepscriptModel", "liftsOf", "(II)I"⟩, 17), (⟨"StepscriptModel", "isOf", "(II)Z"⟩, 17), (⟨"StepscriptModel", "lasts", "(I)I"⟩, 17), (⟨"StepscriptModel", "cost", "(III)I"⟩, 17), (⟨"StepscriptModel", "flat", "(I)I"⟩, 17), (⟨"StepscriptModel", "isBusy", "(II)Z"⟩, 17), (⟨"StepscriptModel", "mends", "(II)I"⟩, 17), (⟨"StepscriptModel", "canCome", "(III)Z"⟩, 17), (⟨"StepscriptModel", "comes", "(III)V"⟩, 17)]
theorem lw_r3 : ∀ q ∈ lw_privs_3, lw_okq q := List.forall_mem_cons.mpr ⟨lw_p32, List.forall_mem_cons.mpr ⟨lw_p33, List.forall_mem_cons.mpr ⟨lw_p34, List.forall_mem_cons.mpr ⟨lw_p35, List.forall_mem_cons.mpr ⟨lw_p36, List.forall_mem_cons.mpr ⟨lw_p37, List.forall_mem_cons.mpr ⟨lw_p38, List.forall_mem_cons.mpr ⟨lw_p39, List.forall_mem_cons.mpr ⟨lw_p40, List.forall_mem_cons.mpr ⟨lw_p41, List.forall_mem_cons.mpr ⟨lw_p42, fun _ h => absurd h List.not_mem_nil⟩⟩⟩⟩⟩⟩⟩⟩⟩⟩⟩
def lw_privs : List (MethodName × Nat) := lw_privs_1 ++ (lw_privs_2 ++ (lw_privs_3))
def lw_tbl : List Cond := k2_sels lw_privs ++ tables_1
theorem lw_privs_ok : ∀ q ∈ lw_privs, lw_okq q := by
  show ∀ q ∈ lw_privs_1 ++ (lw_privs_2 ++ (lw_privs_3)), lw_okq q
  exact List.forall_mem_append.mpr ⟨lw_r1, List.forall_mem_append.mpr ⟨lw_r2, lw_r3⟩⟩

/-! ===== BEGIN words of one list among another's, by their places ===== -/
theorem goodIn_r {big : List Cond} (ws : List Cond) (ps : List Nat) (hp : ws = ps.filterMap (fun i => big[i]?)) (h : ws.all goodWord = true) : GoodIn big ws := by
  intro w hw
  have h1 := List.all_eq_true.mp h w hw
  rw [hp] at hw
  obtain ⟨i, -, hi⟩ := List.mem_filterMap.mp hw
  have hm : w ∈ big := by first | exact List.mem_of_getElem? hi | exact List.getElem?_mem hi
  exact ⟨hm, good_of_word h1⟩
theorem goodIn_app {big a b : List Cond} (ha : GoodIn big a) (hb : GoodIn big b) : GoodIn big (a ++ b) := fun w h => (List.mem_append.mp h).elim (ha w) (hb w)
theorem goodIn_ca {big a b : List Cond} {c : Cond} (ha : GoodIn big (c :: a)) (hb : GoodIn big b) : GoodIn big (c :: (a ++ b)) := fun w h => (List.mem_cons.mp h).elim (fun e => ha w (List.mem_cons.mpr (Or.inl e))) (fun h => (List.mem_append.mp h).elim (fun h => ha w (List.mem_cons.mpr (Or.inr h))) (hb w))
theorem goodIn_sub {big ws : List Cond} (hm : ∀ w ∈ ws, w ∈ big) (h : ws.all goodWord = true) : GoodIn big ws := fun w hw => ⟨hm w hw, good_of_word (List.all_eq_true.mp h w hw)⟩
/-! ===== END ===== -/

/-! ===== BEGIN new T[n][m]: the outer array a place, the inner ones among the pooled ===== -/
/-- f, but v at every address of l -/
def vr_up {α : Type} (f : Nat → α) (l : List Nat) (v : α) : Nat → α := fun a => if a ∈ l then v else f a
theorem vr_up_in {α : Type} {f : Nat → α} {l : List Nat} {v : α} {a : Nat} (h : a ∈ l) : vr_up f l v a = v := if_pos h
theorem vr_up_ne {α : Type} {f : Nat → α} {l : List Nat} {v : α} {a : Nat} (h : a ∉ l) : vr_up f l v a = f a := if_neg h
theorem vr_rows {L l : List Nat} {f : Nat → va_E} {e : va_E} (h : ∀ a, a ∈ l → a ∉ L) : va_pl L f ++ l.map (fun a => (a, e)) = va_pl (L ++ l) (vr_up f l e) := by
  unfold va_pl
  rw [List.map_append]
  congr 1
  · apply List.map_congr_left
    intro a ha
    rw [vr_up_ne (fun q => h a q ha)]
  · apply List.map_congr_left
    intro a ha
    rw [vr_up_in ha]
theorem vr_lay {X rows : va_W} {x : Nat × va_E} {pl : va_W} {D : va_G} {cl : List vw_C} {H : Heap} (hP : va_P D cl (((X ++ pl) ++ [x]) ++ rows) H) : va_P D cl ((X ++ [x]) ++ (pl ++ rows)) H := by
  rw [List.append_assoc (X ++ pl)] at hP
  have h := va_P.swap hP
  rw [← List.append_assoc X] at h
  have h2 := va_P.swap h
  rw [List.append_assoc (X ++ [x])] at h2
  exact h2
theorem vr_layD {X rows : va_W} {x : Nat × va_E} {pl : va_W} {A : Nat → Prop} (hD : va_D A (((X ++ pl) ++ [x]) ++ rows)) : va_D A ((X ++ [x]) ++ (pl ++ rows)) := by
  rw [List.append_assoc (X ++ pl)] at hD
  have h := va_D.swap hD
  rw [← List.append_assoc X] at h
  have h2 := va_D.swap h
  rw [List.append_assoc (X ++ [x])] at h2
  exact h2
theorem vr_outer (c : ClassId) (N h0 : Nat) : ∀ i : Nat, Jvm.Free.Multi.outerC c N h0 i = arrV c N (fun j => va_rf (if j < i then some (h0 + 1 + j) else none))
  | 0 => by
    show ({ cls := c, slots := Array.replicate N .null, vm := .none } : Cell) = _
    rw [arrV_new]
    refine congrArg (arrV c N) (funext fun j => ?_)
    simp [va_rf]
  | i + 1 => by
    show (Jvm.Free.Multi.outerC c N h0 i).setSlot i (.ref (h0 + 1 + i)) = _
    rw [vr_outer c N h0 i, arrV_store]
    refine congrArg (arrV c N) (funext fun j => ?_)
    by_cases e : j = i
    · subst e
      simp [updV, va_rf]
    · by_cases h : j < i
      · simp [updV, e, h, Nat.lt_succ_of_lt h]
      · simp [updV, e, h, show ¬ j < i + 1 by omega]
/-- an array of arrays may be made over this type: wanting in the kit, said here as its sister va_AO is -/
def va_AOA (ty : FieldType) (U : State) : Prop := (Cond.arrayOver (.array ty)).before #[] U = true
theorem va_AOA.of {ty : FieldType} {A : Array Value} {U : State} (h : (Cond.arrayOver (.array ty)).before A U = true) : va_AOA ty U := h
theorem va_AOA.use {ty : FieldType} {A : Array Value} {U : State} (h : va_AOA ty U) : (Cond.arrayOver (.array ty)).before A U = true := h
section VGM
variable {p : Program} {l : Launch} {e : Env} {R : Room} {s : State} {m : MethodId} {args : Array Value} {below : List Frame} {meth : Method} {c : Code} {H : Heap} {locs : List Loc} {cells slots : Nat} {Q : State → Prop}
variable {cc : ByteArray} {pc : Nat} {ls : Array Slot} {rest : List Value} {D : va_G} {cl : List vw_C} {A : Nat → Prop} {a : Nat} {tys : List (ClassId × FieldType)} {ws : va_W} {H0 : Heap}
theorem va_mna {X : va_W} {L : List Nat} {f : Nat → va_E} {cc : ByteArray} (hexec : p.tables.exec = Jvm.exec) (hb : c.code = cc) {own : String} {index : Nat} {ty : FieldType} {cy : ClassId} (hown : s.vm.findClass own = some m.cls) (hclink : (Cond.classLink own index ("[" ++ (FieldType.array ty).toString)).before args s = true) (hover : va_AOA ty s) (harr : (Cond.arrayClass ty).before args s = true) (hcy : s.vm.findClass (FieldType.array ty).toString = some cy)
    (hK : va_K D cl tys s) (hP : va_P D cl (X ++ va_pl L f) H) (hD : va_D A (X ++ va_pl L f)) (hS : va_S A H0 H locs) (hA : ∀ q, H0.size ≤ q → A q) {n k : Int32} {N' K' : Nat} {z : vp_A} (hn : ¬ n < 0) (hk : ¬ k < 0) (hN : n.toNatClampNeg = N') (hM : k.toNatClampNeg = K')
    (hb1 : N' * 4 ≤ 536870912) (hb2 : K' * componentBytes ty ≤ 536870912) (hb3 : K' ≤ 536870912) (hdf : fits ty (defaultValue ty) = true) (hdd : (defaultValue ty).isDefault = true) (hcells : cells + (1 + N') ≤ R.cells) (hslots : slots + (N' + N' * K') ≤ R.slots) (hz : ∀ c : ClassId, Jvm.Free.Multi.innerC c K' (defaultValue ty) = vp_cell c z) (hdg : decode cc pc = .ok (.multianewarray index 2, 4))
    (kk : ∀ (q : Nat) (r : Nat → Nat) (cA : ClassId) (H1 : Heap), (∀ i j : Nat, i < N' → j < N' → r i = r j → i = j) → (∀ i : Nat, i < N' → r i ∉ L) → va_K D cl (tys ++ [(cA, .array ty)]) s →
      va_P D cl ((X ++ [(q, .inl (cA, N', .inr (.inr (.inr (.inr (fun i => if i < N' then some (r i) else none))))))]) ++ va_pl (L ++ (List.range N').map r) (vr_up f ((List.range N').map r) (.inl (cy, z)))) H1 → va_D A ((X ++ [(q, .inl (cA, N', .inr (.inr (.inr (.inr (fun i => if i < N' then some (r i) else none))))))]) ++ va_pl (L ++ (List.range N').map r) (vr_up f ((List.range N').map r) (.inl (cy, z)))) → va_S A H0 H1 locs →
      W p l e R s m args below meth c H1 locs (cells + 1 + N') (slots + N' + N' * K') Q (F0 m (pc + 4) ls (.ref q :: rest))) : W p l e R s m args below meth c H locs cells slots Q (F0 m pc ls (.int k :: .int n :: rest)) := by
  subst hN
  subst hM
  intro T hT Xs
  obtain ⟨vm₁, cA, comp, -, fA, fC, hO, -, X', step⟩ := Xs.multianewarray2F hexec hown hclink (va_AOA.use hover) harr (g := F0 m pc ls (.int k :: .int n :: rest)) rfl (by rw [hb]; exact hdg) rfl hn hk hb1 hb2 hb3 hdf hdd hcells hslots
  have ec : some cy = some comp := hcy.symm.trans fC
  cases ec
  generalize hF : Jvm.Free.Multi.fill (T.setVm vm₁) cA cy n.toNatClampNeg k.toNatClampNeg (defaultValue ty) n.toNatClampNeg = F at X' step
  have hTh : (T.setVm vm₁).heap = H := hT
  obtain ⟨f1, f2, -, -⟩ := Jvm.Free.Multi.fill_facts (T.setVm vm₁) cA cy n.toNatClampNeg k.toNatClampNeg (defaultValue ty) n.toNatClampNeg
  rw [hF, hTh] at f1 f2
  have hold : ∀ x : Nat, x < H.size → F.heap[x]? = H[x]? := fun x hx => by
    have := Jvm.Free.Multi.fill_old (T.setVm vm₁) cA cy n.toNatClampNeg k.toNatClampNeg (defaultValue ty) (a := x) (by rw [hTh]; exact hx) n.toNatClampNeg
    rw [hF, hTh] at this
    exact this
  have hrow : ∀ j : Nat, j < n.toNatClampNeg → F.heap[H.size + 1 + j]? = some (vp_cell cy z) := fun j hj => by
    have := Jvm.Free.Multi.fill_inner (T.setVm vm₁) cA cy n.toNatClampNeg k.toNatClampNeg (defaultValue ty) n.toNatClampNeg j hj
    rw [hF, hTh, hz] at this
    exact this
  have hout : Jvm.Free.Multi.outerC cA n.toNatClampNeg H.size n.toNatClampNeg = vp_cell cA (n.toNatClampNeg, .inr (.inr (.inr (.inr (fun i => if i < n.toNatClampNeg then some (H.size + 1 + i) else none))))) := by
    rw [vp_cell_q]
    exact vr_outer cA n.toNatClampNeg H.size n.toNatClampNeg
  rw [hout] at f2
  have hlt : ∀ a, a ∈ L → a < H.size := fun a ha => by
    obtain ⟨k9, hk9⟩ := va_pl_get (X := X) (f := f) ha
    exact (hP k9 _ hk9).lt
  have hnl : ∀ i : Nat, i < n.toNatClampNeg → H.size + 1 + i ∉ L := fun i _ h => by
    have := hlt _ h
    omega
  have hnm : ∀ a, a ∈ (List.range n.toNatClampNeg).map (fun i => H.size + 1 + i) → a ∉ L := fun a ha h => by
    obtain ⟨i, -, rfl⟩ := List.mem_map.mp ha
    have := hlt _ h
    omega
  have hP0 : va_P D cl (X ++ va_pl L f) F.heap := hP.kept (fun k9 x hx => hold x.1 ((hP k9 x hx).lt))
  have hP1 : va_P D cl ((X ++ va_pl L f) ++ [(H.size, .inl (cA, n.toNatClampNeg, .inr (.inr (.inr (.inr (fun i => if i < n.toNatClampNeg then some (H.size + 1 + i) else none))))))]) F.heap := hP0.app (fun k9 x hx => by
    have h0 : k9 < 1 := (List.getElem?_eq_some_iff.mp hx).1
    rw [show k9 = 0 by omega] at hx
    cases hx
    exact f2)
  have hP2 : va_P D cl (((X ++ va_pl L f) ++ [(H.size, .inl (cA, n.toNatClampNeg, .inr (.inr (.inr (.inr (fun i => if i < n.toNatClampNeg then some (H.size + 1 + i) else none))))))]) ++ ((List.range n.toNatClampNeg).map (fun i => H.size + 1 + i)).map (fun a => (a, .inl (cy, z)))) F.heap := hP1.app (fun k9 x hx => by
    obtain ⟨a, ha, rfl⟩ := List.mem_map.mp (List.mem_of_getElem? hx)
    obtain ⟨i, hi, rfl⟩ := List.mem_map.mp ha
    exact hrow i (List.mem_range.mp hi))
  have hD2 : va_D A (((X ++ va_pl L f) ++ [(H.size, .inl (cA, n.toNatClampNeg, .inr (.inr (.inr (.inr (fun i => if i < n.toNatClampNeg then some (H.size + 1 + i) else none))))))]) ++ ((List.range n.toNatClampNeg).map (fun i => H.size + 1 + i)).map (fun a => (a, .inl (cy, z)))) := by
    have hD1 := hD.push (e := .inl (cA, n.toNatClampNeg, .inr (.inr (.inr (.inr (fun i => if i < n.toNatClampNeg then some (H.size + 1 + i) else none)))))) hP rfl (hA _ hS.1)
    generalize hW1 : (X ++ va_pl L f) ++ [(H.size, .inl (cA, n.toNatClampNeg, .inr (.inr (.inr (.inr (fun i => if i < n.toNatClampNeg then some (H.size + 1 + i) else none))))))] = W1 at hD1 hP1 ⊢
    have hle : ∀ (k9 : Nat) (x : Nat × va_E), W1[k9]? = some x → x.1 ≤ H.size := fun k9 x hx => by
      rw [← hW1] at hx
      by_cases hl : k9 < (X ++ va_pl L f).length
      · rw [List.getElem?_append_left hl] at hx
        exact Nat.le_of_lt ((hP k9 x hx).lt)
      · rw [List.getElem?_append_right (by omega)] at hx
        have h0 : k9 - (X ++ va_pl L f).length < 1 := (List.getElem?_eq_some_iff.mp hx).1
        rw [show k9 - (X ++ va_pl L f).length = 0 by omega] at hx
        cases hx
        exact Nat.le_refl _
    have hr : ∀ (k9 : Nat) (x : Nat × va_E), (((List.range n.toNatClampNeg).map (fun i => H.size + 1 + i)).map (fun a => ((a, .inl (cy, z)) : Nat × va_E)))[k9]? = some x → x.1 = H.size + 1 + k9 := fun k9 x hx => by
      rw [List.getElem?_map, List.getElem?_map] at hx
      by_cases h9 : k9 < n.toNatClampNeg
      · rw [List.getElem?_range h9] at hx
        cases hx
        rfl
      · have hn0 : (List.range n.toNatClampNeg)[k9]? = none := List.getElem?_eq_none (by rw [List.length_range]; omega)
        rw [hn0] at hx
        cases hx
    refine ⟨fun i j x y hi hj hxy => ?_, fun k9 x hx => ?_⟩
    · by_cases h1 : i < W1.length <;> by_cases h2 : j < W1.length
      · rw [List.getElem?_append_left h1] at hi
        rw [List.getElem?_append_left h2] at hj
        exact hD1.1 i j x y hi hj hxy
      · rw [List.getElem?_append_left h1] at hi
        rw [List.getElem?_append_right (by omega)] at hj
        have := hle _ _ hi
        have := hr _ _ hj
        omega
      · rw [List.getElem?_append_right (by omega)] at hi
        rw [List.getElem?_append_left h2] at hj
        have := hle _ _ hj
        have := hr _ _ hi
        omega
      · rw [List.getElem?_append_right (by omega)] at hi hj
        have := hr _ _ hi
        have := hr _ _ hj
        omega
    · by_cases h1 : k9 < W1.length
      · rw [List.getElem?_append_left h1] at hx
        exact hD1.2 k9 x hx
      · rw [List.getElem?_append_right (by omega)] at hx
        have := hr _ _ hx
        exact hA _ (by have := hS.1; omega)
  have hAr : ArrOfT s cA (.array ty) := fun N9 z9 => by
    obtain ⟨-, k9, hk9, cm9, hkk9⟩ := (hO 0 0 0).1
    exact ⟨(fun q hq => by cases hq), k9, hk9, cm9, hkk9⟩
  have hK2 : va_K D cl (tys ++ [(cA, .array ty)]) s := ⟨hK.1, fun k9 x hx => by
    by_cases hl : k9 < tys.length
    · rw [List.getElem?_append_left hl] at hx
      exact hK.2 k9 x hx
    · rw [List.getElem?_append_right (by omega)] at hx
      have h0 : k9 - tys.length < 1 := (List.getElem?_eq_some_iff.mp hx).1
      rw [show k9 - tys.length = 0 by omega] at hx
      cases hx
      exact ⟨hAr, fA⟩⟩
  obtain ⟨t, a1, b1⟩ := kk H.size (fun i => H.size + 1 + i) cA F.heap (fun i j _ _ h => by have h9 : H.size + 1 + i = H.size + 1 + j := h; omega) hnl hK2 (by rw [← vr_rows hnm]; exact vr_lay hP2) (by rw [← vr_rows hnm]; exact vr_layD hD2) ⟨by rw [f1]; have := hS.1; omega, fun x h1 h2 => (hold x (Nat.lt_of_lt_of_le h1 hS.1)).trans (hS.2.1 x h1 h2), hS.2.2⟩ F rfl X'
  refine ⟨t, step t ?_, b1⟩
  have e : T.heap.size = H.size := by rw [hT]
  rw [e]
  exact a1
end VGM
/-! ===== END ===== -/

/-! ===== BEGIN exceptions that leave a method, and their catching by the caller (launches without stack traces) ===== -/
section VXA
/-! The laws vx_back, vx_callV, vx_callS, vx_callSW, vx_throw0, vx_throwS follow proofs of the library, with one case more: JvmDerived/Free/Laws.lean (Back.of_free), Shelf42/LK1.lean (callV, callS), Shelf/KitTraced.lean (throwNew0V, throwNewS). -/
/-- where a method has thrown q: the class by its name, the cell, what was written, the world -/
def vx_T (XC : String → State → State → Prop) (st : State) (q : Addr) (t : State) (mc ms : Nat) (free : Addr → Prop) : Prop :=
  ∃ (E : String) (ce : Cell) (L : List Loc), XC E st t ∧ t.heap[q]? = some ce ∧ ce.vm = .none ∧ st.vm.findClass E = some ce.cls ∧ st.WarmedH t.vm ∧ st.sameButNew ({ t with vm := st.vm } : State) L mc ms ∧ ∀ z ∈ L, free z.base
def vx_Q (Qc : Array Value → State → Outcome → State → Prop) (XC : String → State → State → Prop) (mc ms : Nat) (free : Addr → Prop) : Array Value → State → Outcome → State → Prop := fun a st o t =>
  (Qc a st o t ∧ ∃ L, FrameEnd st o t L mc ms ∧ ∀ q ∈ L, free q.base) ∨ ∃ q, o = .threw q ∧ vx_T XC st q t mc ms free
/-- a callee that returns or throws -/
def vx_Met (l : Launch) (y : MethodName) (ws : List Cond) (rm : Room) (Pc : Array Value → State → Prop) (Qc : Array Value → State → Outcome → State → Prop) (XC : String → State → State → Prop) (mc ms : Nat) (free : Addr → Prop) : Prop :=
  MetFree l y (headSpec ws rm) Pc (fun _ _ _ _ _ => True) (vx_Q Qc XC mc ms free)
def vx_Post (XC : String → State → State → Prop) (mc ms : Nat) (free : Addr → Prop) : Pt → Array Value → Addr → Pt → Prop := fun A a q B =>
  ∃ (g : JFrame) (mk : MethodId) (t : State) (L : List Loc) (E : String) (ce : Cell), B.U.heap = t.heap ∧ B.U.vm = t.vm ∧ XC E (A.U.calling g mk a) t ∧ t.heap[q]? = some ce ∧ ce.vm = .none ∧ A.U.vm.findClass E = some ce.cls ∧ B.locs = A.locs ++ L ∧ (∀ z ∈ L, free z.base) ∧ B.cells = A.cells + mc ∧ B.slots = A.slots + ms
def vx_Back (l : Launch) (R : Room) (p : Program) (e : Env) (below : List Frame) (s : State) (sargs : Array Value) (y : MethodName) (len W9 : Nat)
    (Pre : Pt → Array Value → Prop) (Post : Pt → Array Value → Option Value → Pt → Prop) (PostX : Pt → Array Value → Addr → Pt → Prop) : Prop :=
  ∀ (m : MethodId) (meth : Method) (c : Code) (A : Pt) (g : JFrame) (ig : Instr) (mk : MethodId) (a : Array Value),
    Stand p l e R s m sargs below meth c A.U A.locs A.cells A.slots → g.method = m → g.locals.size = c.maxLocals → decode c.code g.pc = .ok (ig, len) →
    2 * g.monitorRoom + (g.stack.map fun v => v.category).sum ≤ W9 → A.U.methodNamed? y = some mk → Pre A a →
    (∃ (v : Option Value) (B : Pt), Stand p l e R s m sargs below meth c B.U B.locs B.cells B.slots ∧ Post A a v B ∧
      Steps p.tables e below (doInvoke e (A.U.setTop g) [] mk a).1 (B.U.setTop { g with pc := g.pc + len, stack := v.toList ++ g.stack })) ∨
    (∃ (q : Addr) (B : Pt), Stand p l e R s m sargs below meth c B.U B.locs B.cells B.slots ∧ PostX A a q B ∧
      Steps p.tables e below (doInvoke e (A.U.setTop g) [] mk a).1 ((B.U.setTop g).pushFrame (.throwing q)))
section Payer
variable {l : Launch} {R : Room} {p : Program} {e : Env} {below : List Frame} {s : State} {sargs : Array Value} {y : MethodName} {len W9 : Nat}
theorem vx_back {ws : List Cond} {rm : Room} {Pc : Array Value → State → Prop} {Qc : Array Value → State → Outcome → State → Prop} {XC : String → State → State → Prop} {mc ms : Nat} {free : Addr → Prop} {bytes : ByteArray} {maxL : Nat} {ret : Option FieldType}
    (hM : vx_Met l y ws rm Pc Qc XC mc ms free) (hblind : FrameBlind Pc) (hrc : rm.cells = mc) (hrs : rm.slots = ms)
    (hframes : rm.frames + 1 ≤ R.frames) (hlocals : W9 + (maxL + 11) + rm.locals ≤ R.locals)
    (hws : ∀ w ∈ ws, ∀ a' U, s.WarmedH U.vm → w.before a' U = true) (hcode : Cond.code y bytes maxL ret ∈ ws) (hinit : ∀ a' U, s.WarmedH U.vm → (Cond.initialized y.cls).before a' U = true) :
    vx_Back l R p e below s sargs y len W9 (PreOf R mc ms Pc) (PostOf Qc mc ms free) (vx_Post XC mc ms free) := by
  intro m meth c A g ig mk a X hg hsize hdg hW hn hp
  have h1 : (headSpec ws rm).pre.before a A.U = true := atoms_intro fun w hw => hws w hw _ _ X.warmed
  have h2 : (Cond.code y bytes maxL ret).before a A.U = true := hws _ hcode _ _ X.warmed
  have h3 : (Cond.initialized y.cls).before a A.U = true := hinit _ _ X.warmed
  have h4 : A.cells + (headSpec ws rm).room.cells ≤ R.cells := by rw [show (headSpec ws rm).room.cells = mc from hrc]; exact hp.1
  have h5 : A.slots + (headSpec ws rm).room.slots ≤ R.slots := by rw [show (headSpec ws rm).room.slots = ms from hrs]; exact hp.2.1
  have hPc : Pc a (A.U.calling g mk a) := hblind _ _ _ _ hp.2.2
  obtain ⟨U, Ls, c0, s0⟩ := A
  dsimp only [Pt.U, Pt.locs, Pt.cells, Pt.slots] at h1 h2 h3 h4 h5 X hn hPc ⊢
  obtain ⟨methY, cY, hmY, hcY, -, hlY, -, -, -, -⟩ := Cond.code_spec hn h2
  obtain ⟨kY, hkY, -⟩ := className_of_methodNamed hn
  have hinitY : kY.init = .initialized := Cond.initialized_spec (findClass_of_methodNamed hn) hkY h3
  have h : At U g.method c below := by rw [hg]; exact X.here
  have hlocals9 : W9 + (maxL + 11) + (headSpec ws rm).room.locals ≤ R.locals := hlocals
  have happ : (headSpec ws rm).appliesLoose y e.platform (U.calling g mk a) = true :=
    Spec.appliesLoose_calling (g := g) h hdg hn hkY hinitY
      (X.room_calling (g := g) (R' := (headSpec ws rm).room) hsize hmY hcY hframes (by rw [hlY]; omega) h4 h5) h1
  obtain ⟨mid, hmid⟩ := h.above
  have hfr : (U.setTop g).frames = (.java g :: mid) ++ below := by rw [State.frames_setTop' g h.top, hmid]; rfl
  obtain ⟨o, s₂, hsteps, -, hend, hq⟩ := Steps.callFree hM p X.admits X.cas X.clock (acts := []) hfr happ hPc trivial
  have hq' : vx_Q Qc XC mc ms free a (U.calling g mk a) o s₂ := hq
  rw [State.frames_setTop' g h.top] at hend
  obtain ⟨g₀, hg0⟩ := Option.isSome_iff_exists.mp h.top
  obtain ⟨r, hr⟩ := State.topJava?_eq_some.mp hg0
  have hr' : (({ U with heap := s₂.heap, slotsUsed := s₂.slotsUsed } : State).setVm s₂.vm).frames = .java g₀ :: r := hr
  rcases hq' with ⟨hqc, L, hfe, hL⟩ | ⟨q, rfl, E, ce, L, hx, hce, hcv, hcl, hW₂, hsm, hL⟩
  · obtain ⟨⟨v, rfl⟩, hW₂, e2, q2, q3, q4, q5, q6⟩ := id hfe
    have e3 : s₂ = ({ (U.calling g mk a).setFrames s₂.frames with heap := s₂.heap, slotsUsed := s₂.slotsUsed } : State).setVm s₂.vm := by
      have : s₂ = ({ s₂ with vm := (U.calling g mk a).vm } : State).setVm s₂.vm := rfl
      rw [e2] at this
      exact this
    obtain ⟨c₂, i₂, len₂, hc₂, hd₂, hf₂⟩ := hend
    have hW' : U.WarmedH s₂.vm := hW₂
    have hcc : c₂ = c := by
      have h1 : s₂.code? g.method = U.code? g.method := by
        rw [State.code?_eq, State.code?_eq, hW'.alike.method?]
      exact Option.some.inj (hc₂.symm.trans (h1.trans h.code))
    subst hcc
    have hlen : len₂ = len := by rw [hdg] at hd₂; cases hd₂; rfl
    subst hlen
    have hs₂ : s₂ = (({ U with heap := s₂.heap, slotsUsed := s₂.slotsUsed } : State).setVm s₂.vm).setTop { g with pc := g.pc + len₂, stack := v.toList ++ g.stack } := by
      refine e3.trans ?_
      rw [hf₂, State.calling_eq h.top, State.setFrames_setFrames, State.setTop_of_frames _ hr', hr]
      rfl
    have hsame : U.sameButNew ({ U with heap := s₂.heap, slotsUsed := s₂.slotsUsed } : State) L mc ms := by
      refine ⟨?_, q2, q3, q4, q5, q6⟩
      obtain ⟨t, ht, -⟩ := State.frames_cons hr
      show ({ U with heap := s₂.heap, slotsUsed := s₂.slotsUsed } : State) = { U.setFrames U.frames with heap := s₂.heap, slotsUsed := s₂.slotsUsed }
      rw [State.setFrames_self ht]
    subst hg
    refine Or.inl ⟨v, ⟨(({ U with heap := s₂.heap, slotsUsed := s₂.slotsUsed } : State).setVm s₂.vm), Ls ++ L, c0 + mc, s0 + ms⟩,
      ⟨X.admits, X.cas, X.clock, X.frames, X.room, X.hears, X.method, X.code, (X.here.setHeapUsed s₂.heap s₂.slotsUsed).setVm hW'.alike, X.tail, State.WarmedH.trans X.warmed hW', X.limits, X.bytes, X.same.trans (hsame.setVm s.vm)⟩,
      ⟨g, mk, s₂, L, rfl, rfl, hqc, rfl, hL, rfl, rfl⟩, ?_⟩
    show Steps p.tables e below _ ((({ U with heap := s₂.heap, slotsUsed := s₂.slotsUsed } : State).setVm s₂.vm).setTop { g with pc := g.pc + len₂, stack := v.toList ++ g.stack })
    rw [← hs₂]
    exact hsteps
  · obtain ⟨e2, q2, q3, q4, q5, q6⟩ := id hsm
    have e3 : s₂ = ({ (U.calling g mk a).setFrames s₂.frames with heap := s₂.heap, slotsUsed := s₂.slotsUsed } : State).setVm s₂.vm := by
      have : s₂ = ({ s₂ with vm := (U.calling g mk a).vm } : State).setVm s₂.vm := rfl
      rw [e2] at this
      exact this
    have hf₂ : s₂.frames = .throwing q :: .java g :: U.frames.tail := hend
    have hW' : U.WarmedH s₂.vm := hW₂
    have hs₂ : s₂ = ((({ U with heap := s₂.heap, slotsUsed := s₂.slotsUsed } : State).setVm s₂.vm).setTop g).pushFrame (.throwing q) := by
      refine e3.trans ?_
      rw [hf₂, State.calling_eq h.top, State.setFrames_setFrames, State.pushFrame, State.frames_setTop _ hr', State.setTop_of_frames _ hr', State.setFrames_setFrames, hr]
      rfl
    have hsame : U.sameButNew ({ U with heap := s₂.heap, slotsUsed := s₂.slotsUsed } : State) L mc ms := by
      refine ⟨?_, q2, q3, q4, q5, q6⟩
      obtain ⟨t, ht, -⟩ := State.frames_cons hr
      show ({ U with heap := s₂.heap, slotsUsed := s₂.slotsUsed } : State) = { U.setFrames U.frames with heap := s₂.heap, slotsUsed := s₂.slotsUsed }
      rw [State.setFrames_self ht]
    subst hg
    refine Or.inr ⟨q, ⟨(({ U with heap := s₂.heap, slotsUsed := s₂.slotsUsed } : State).setVm s₂.vm), Ls ++ L, c0 + mc, s0 + ms⟩,
      ⟨X.admits, X.cas, X.clock, X.frames, X.room, X.hears, X.method, X.code, (X.here.setHeapUsed s₂.heap s₂.slotsUsed).setVm hW'.alike, X.tail, State.WarmedH.trans X.warmed hW', X.limits, X.bytes, X.same.trans (hsame.setVm s.vm)⟩,
      ⟨g, mk, s₂, L, E, ce, rfl, rfl, hx, hce, hcv, hcl, rfl, hL, rfl, rfl⟩, ?_⟩
    show Steps p.tables e below _ (((({ U with heap := s₂.heap, slotsUsed := s₂.slotsUsed } : State).setVm s₂.vm).setTop g).pushFrame (.throwing q))
    rw [← hs₂]
    exact hsteps
end Payer
section Calls
variable {p : Program} {l : Launch} {e : Env} {R : Room} {s : State} {m : MethodId} {args : Array Value} {below : List Frame} {meth : Method} {c : Code} {T : State} {locs : List Loc} {cells slots : Nat}
theorem vx_callV (X : Stand p l e R s m args below meth c T locs cells slots) (hexec : p.tables.exec = Jvm.exec) {own C : String} {index : Nat} {y : MethodName} {bytes : ByteArray} {maxL : Nat} {ret : Option FieldType}
    (hown : s.vm.findClass own = some m.cls) (hlink : (Cond.methodLink own index y).before args s = true) (hinst : (Cond.instanceMethod y).before args s = true) (hsel : (Cond.selects C y y).before args s = true)
    (hcode : (Cond.code y bytes maxL ret).before args s = true) (hy : y.cls ≠ "java/lang/invoke/MethodHandle" ∧ y.cls ≠ "java/lang/invoke/VarHandle")
    {W9 : Nat} {Pre : Pt → Array Value → Prop} {Post : Pt → Array Value → Option Value → Pt → Prop} {PostX : Pt → Array Value → Addr → Pt → Prop} (hK : vx_Back l R p e below s args y 3 W9 Pre Post PostX)
    {b : Addr} {cellB : Cell} (hcell : T.heap[b]? = some cellB) (hobj : cellB.vm.isStatics = false) (hcls : s.vm.findClass C = some cellB.cls)
    {g : JFrame} (hg : g.method = m) (hsize : g.locals.size = c.maxLocals) {argsL rest : List Value} (hlen : ∀ sig, parseMethodDescriptor y.desc = some sig → argsL.length = sig.parameters.length)
    (hstack : g.stack = argsL.reverse ++ .ref b :: rest) (hW : 2 * g.monitorRoom + (rest.map fun v => v.category).sum ≤ W9) (hdg : decode c.code g.pc = .ok (.invokevirtual index, 3))
    (hpre : ∀ vm₁, s.WarmedH vm₁ → Pre ⟨T.setVm vm₁, locs, cells, slots⟩ (Value.ref b :: argsL).toArray) :
    (∃ (v : Option Value) (vm₁ : Vm) (B : Pt), s.WarmedH vm₁ ∧ Stand p l e R s m args below meth c B.U B.locs B.cells B.slots ∧ Post ⟨T.setVm vm₁, locs, cells, slots⟩ (Value.ref b :: argsL).toArray v B ∧
      ∀ target, Steps p.tables e below (B.U.setTop { g with pc := g.pc + 3, stack := v.toList ++ rest }) target → Steps p.tables e below (T.setTop g) target) ∨
    (∃ (q : Addr) (vm₁ : Vm) (B : Pt), s.WarmedH vm₁ ∧ Stand p l e R s m args below meth c B.U B.locs B.cells B.slots ∧ PostX ⟨T.setVm vm₁, locs, cells, slots⟩ (Value.ref b :: argsL).toArray q B ∧
      Steps p.tables e below (T.setTop g) ((B.U.setTop { g with stack := rest }).pushFrame (.throwing q))) := by
  obtain ⟨mk, methM, hnamed, hmethM, hstM, habM⟩ := Cond.instanceMethod_spec hinst
  obtain ⟨methM', cM, hmethM', -, -, -, -, -, -, hsigM⟩ := Cond.code_spec hnamed hcode
  cases hmethM.symm.trans hmethM'
  obtain ⟨c2, r2, m2, q1, q2, q3, q4, kP, hkP, hkPi⟩ := Cond.selects_spec hsel
  cases hcls.symm.trans q1
  cases (State.methodFound?_of_named hnamed hy).symm.trans q2
  cases hnamed.symm.trans q3
  have hselP : selectMethod e.platform s.vm cellB.cls mk = .method mk := by rw [Launch.admits_selectMethod X.admits]; exact q4
  obtain ⟨vm₁, X₁, hstep₁⟩ := X.invokevirtual hexec hown hlink hnamed hmethM hstM hkP hkPi hy (a := b) (cell := cellB) hcell
    (fun z h => by rw [h] at hobj; cases hobj) hselP hmethM habM hkP hkPi (g := g) hg (argsL := argsL) (rest := rest) (hlen _ hsigM) hstack hdg
  rcases hK m meth c ⟨T.setVm vm₁, locs, cells, slots⟩ { g with stack := rest } (.invokevirtual index) mk (Value.ref b :: argsL).toArray X₁ hg hsize hdg hW (X₁.named hnamed) (hpre vm₁ X₁.warmed) with ⟨v, B, X', hpost, hsteps⟩ | ⟨q, B, X', hpost, hsteps⟩
  · exact Or.inl ⟨v, vm₁, B, X₁.warmed, X', hpost, fun target h => hstep₁ _ fun acts => by rw [doInvoke_state]; exact hsteps.trans h⟩
  · exact Or.inr ⟨q, vm₁, B, X₁.warmed, X', hpost, hstep₁ _ fun acts => by rw [doInvoke_state]; exact hsteps⟩
theorem vx_callS (X : Stand p l e R s m args below meth c T locs cells slots) (hexec : p.tables.exec = Jvm.exec) {own : String} {index : Nat} {y : MethodName} {bytes : ByteArray} {maxL : Nat} {ret : Option FieldType}
    (hown : s.vm.findClass own = some m.cls) (hlink : (Cond.methodLink own index y).before args s = true) (hstat : (Cond.static y).before args s = true) (hinit : (Cond.initialized y.cls).before args s = true)
    (hcode : (Cond.code y bytes maxL ret).before args s = true) (hy : y.cls ≠ "java/lang/invoke/MethodHandle" ∧ y.cls ≠ "java/lang/invoke/VarHandle")
    {W9 : Nat} {Pre : Pt → Array Value → Prop} {Post : Pt → Array Value → Option Value → Pt → Prop} {PostX : Pt → Array Value → Addr → Pt → Prop} (hK : vx_Back l R p e below s args y 3 W9 Pre Post PostX)
    {g : JFrame} (hg : g.method = m) (hsize : g.locals.size = c.maxLocals) {argsL rest : List Value} (hlen : ∀ sig, parseMethodDescriptor y.desc = some sig → argsL.length = sig.parameters.length)
    (hstack : g.stack = argsL.reverse ++ rest) (hW : 2 * g.monitorRoom + (rest.map fun v => v.category).sum ≤ W9) (hdg : decode c.code g.pc = .ok (.invokestatic index, 3))
    (hpre : ∀ vm₁, s.WarmedH vm₁ → Pre ⟨T.setVm vm₁, locs, cells, slots⟩ argsL.toArray) :
    (∃ (v : Option Value) (vm₁ : Vm) (B : Pt), s.WarmedH vm₁ ∧ Stand p l e R s m args below meth c B.U B.locs B.cells B.slots ∧ Post ⟨T.setVm vm₁, locs, cells, slots⟩ argsL.toArray v B ∧
      ∀ target, Steps p.tables e below (B.U.setTop { g with pc := g.pc + 3, stack := v.toList ++ rest }) target → Steps p.tables e below (T.setTop g) target) ∨
    (∃ (q : Addr) (vm₁ : Vm) (B : Pt), s.WarmedH vm₁ ∧ Stand p l e R s m args below meth c B.U B.locs B.cells B.slots ∧ PostX ⟨T.setVm vm₁, locs, cells, slots⟩ argsL.toArray q B ∧
      Steps p.tables e below (T.setTop g) ((B.U.setTop { g with stack := rest }).pushFrame (.throwing q))) := by
  obtain ⟨mk, hnamed⟩ := Cond.code_named hcode
  obtain ⟨methM, cM, hmethM, -, -, -, -, -, -, hsigM⟩ := Cond.code_spec hnamed hcode
  have hstatic : methM.isStatic = true := Cond.static_spec hnamed hmethM hstat
  obtain ⟨kP, hkP, -⟩ := className_of_methodNamed hnamed
  have hinitP : kP.init = .initialized := Cond.initialized_spec (findClass_of_methodNamed hnamed) hkP hinit
  obtain ⟨vm₁, X₁, hstep₁⟩ := X.invokestatic hexec hown hlink hnamed hmethM hstatic hkP hinitP hy (g := g) hg (argsL := argsL) (rest := rest) (hlen _ hsigM) hstack hdg
  rcases hK m meth c ⟨T.setVm vm₁, locs, cells, slots⟩ { g with stack := rest } (.invokestatic index) mk argsL.toArray X₁ hg hsize hdg hW (X₁.named hnamed) (hpre vm₁ X₁.warmed) with ⟨v, B, X', hpost, hsteps⟩ | ⟨q, B, X', hpost, hsteps⟩
  · exact Or.inl ⟨v, vm₁, B, X₁.warmed, X', hpost, fun target h => hstep₁ _ fun acts => by rw [doInvoke_state]; exact hsteps.trans h⟩
  · exact Or.inr ⟨q, vm₁, B, X₁.warmed, X', hpost, hstep₁ _ fun acts => by rw [doInvoke_state]; exact hsteps⟩
end Calls
theorem vx_cls {s : State} {T : State} {vm₁ : Vm} {E : String} {k : ClassId} (hW : s.WarmedH vm₁) (h : (T.setVm vm₁).vm.findClass E = some k) : s.vm.findClass E = some k := by
  have h1 : vm₁.findClass E = some k := h
  rw [hW.alike.findClass] at h1
  exact h1
/-- the method's frame g, with q thrown over it -/
def vx_W (p : Program) (l : Launch) (e : Env) (R : Room) (s : State) (m : MethodId) (args : Array Value) (below : List Frame) (meth : Method) (c : Code) (H : Heap) (locs : List Loc) (cells slots : Nat) (Q : State → Prop) (g : JFrame) (q : Addr) : Prop :=
  ∀ T : State, T.heap = H → Stand p l e R s m args below meth c T locs cells slots → ∃ t, Steps p.tables e below ((T.setTop g).pushFrame (.throwing q)) t ∧ Q t
def vx_Run (p : Program) (l : Launch) (e : Env) (R : Room) (s : State) (m : MethodId) (args : Array Value) (below : List Frame) (meth : Method) (c : Code) (H : Heap) (locs : List Loc) (cells slots mc ms : Nat) (g : JFrame) (rest : List Value) (Qa : State → Outcome → State → Prop) (XC : String → State → State → Prop) (free : Addr → Prop) : Prop :=
  ∀ T : State, T.heap = H → Stand p l e R s m args below meth c T locs cells slots →
    (∃ (v : Option Value) (st₀ t T' : State) (L : List Loc), st₀.heap = H ∧ Stand p l e R s m args below meth c T' (locs ++ L) (cells + mc) (slots + ms) ∧ (∀ q ∈ L, free q.base) ∧ T'.heap = t.heap ∧ T'.vm = t.vm ∧ Qa st₀ (.returned v) t ∧
      Goes p e below T g T' { g with pc := g.pc + 3, stack := v.toList ++ rest }) ∨
    (∃ (q : Addr) (st₀ t T' : State) (L : List Loc) (E : String) (ce : Cell), st₀.heap = H ∧ Stand p l e R s m args below meth c T' (locs ++ L) (cells + mc) (slots + ms) ∧ (∀ z ∈ L, free z.base) ∧ T'.heap = t.heap ∧ T'.vm = t.vm ∧ XC E st₀ t ∧ t.heap[q]? = some ce ∧ ce.vm = .none ∧ s.vm.findClass E = some ce.cls ∧
      Steps p.tables e below (T.setTop g) ((T'.setTop { g with stack := rest }).pushFrame (.throwing q)))
def vx_X {S : Type} (px : S → Prop) (B : String → S → State → Prop) (A : Nat → Prop) : String → State → State → Prop := fun E st t => ∃ u : S, px u ∧ B E u t ∧ va_F A st t
section Runs
variable {p : Program} {l : Launch} {e : Env} {R : Room} {s : State} {m : MethodId} {args : Array Value} {below : List Frame} {meth : Method} {c : Code} {H : Heap} {locs : List Loc} {cells slots : Nat}
variable {y : MethodName} {bytes cc : ByteArray} {maxL nL mc ms n index : Nat} {ret : Option FieldType} {ws : List Cond} {rm : Room} {Pc : Array Value → State → Prop} {Qc : Array Value → State → Outcome → State → Prop} {XC : String → State → State → Prop} {free : Addr → Prop} {Ts : List Cond} {own C : String} {b : Addr} {As rest : List Value} {g : JFrame}
theorem vx_callBack (cb : CallB R s args own index y bytes maxL ret ws rm mc ms n) (hM : vx_Met l y ws rm Pc Qc XC mc ms free) (hbl : FrameBlind Pc) : vx_Back l R p e below s args y 3 8 (PreOf R mc ms Pc) (PostOf Qc mc ms free) (vx_Post XC mc ms free) := by
  obtain ⟨hrc, hrs, hfr, hlo, hws, hcw, -, hini, -⟩ := cb
  exact vx_back (bytes := bytes) (maxL := maxL) (ret := ret) hM hbl hrc hrs hfr hlo hws hcw (fun a' U hW => word_at hW (Or.inl (by first | rfl | simp [Cond.onTables, Cond.keeps, Cond.steady])) hini)
theorem vx_runV (S : CallFix p m c cc nL s args Ts own) (hM : vx_Met l y ws rm Pc Qc XC mc ms free) (cw : CallW R s args own C index y bytes maxL ret ws rm mc ms n) (hp : PreV s H C b Pc As)
    (hg : g.method = m) (hn : As.length = n) (hsize : g.locals.size = nL) (hstack : g.stack = As.reverse ++ .ref b :: rest) (hW : 2 * g.monitorRoom + (rest.map fun v => v.category).sum ≤ 8) (hdg : decode cc g.pc = .ok (.invokevirtual index, 3)) (hf : cells + mc ≤ R.cells ∧ slots + ms ≤ R.slots) :
    vx_Run p l e R s m args below meth c H locs cells slots mc ms g rest (Qc (Value.ref b :: As).toArray) XC free := by
  have hK : vx_Back l R p e below s args y 3 8 (PreOf R mc ms Pc) (PostOf Qc mc ms free) (vx_Post XC mc ms free) := vx_callBack cw.1 hM hp.1
  obtain ⟨⟨-, -, -, -, -, -, hcode, -, hy, hlen, hl⟩, hin, hse⟩ := cw
  obtain ⟨hx, hb, hml, ho, -⟩ := S
  obtain ⟨-, ⟨cellB, hcB, hoB, hclB⟩, hPc⟩ := hp
  intro T hT X
  rcases vx_callV X hx (C := C) (bytes := bytes) (maxL := maxL) (ret := ret) ho hl hin hse hcode hy hK (by rw [hT]; exact hcB) hoB hclB hg (hsize.trans hml.symm) (argsL := As) (rest := rest) (fun sig h => hn.trans (hlen sig h)) hstack hW (by rw [hb]; exact hdg)
    (fun vm₁ hW₁ => ⟨hf.1, hf.2, hPc (T.setVm vm₁) hT hW₁⟩) with ⟨v, vm₁, ⟨U', l2, c2, s2⟩, hW₁, X', ⟨g', mk, t, L, e1, e2, hq, h1, hL, h2, h3⟩, st⟩ | ⟨q, vm₁, ⟨U', l2, c2, s2⟩, hW₁, X', ⟨g', mk, t, L, E, ce, e1, e2, hq, hce, hcv, hcl, h1, hL, h2, h3⟩, st⟩
  · dsimp only [Pt.U, Pt.locs, Pt.cells, Pt.slots] at X' e1 e2 h1 h2 h3 st
    subst h1; subst h2; subst h3
    exact Or.inl ⟨v, (T.setVm vm₁).calling g' mk (Value.ref b :: As).toArray, t, U', L, hT, X', hL, e1, e2, hq, st⟩
  · dsimp only [Pt.U, Pt.locs, Pt.cells, Pt.slots] at X' e1 e2 h1 h2 h3 st hcl
    subst h1; subst h2; subst h3
    exact Or.inr ⟨q, (T.setVm vm₁).calling g' mk (Value.ref b :: As).toArray, t, U', L, E, ce, hT, X', hL, e1, e2, hq, hce, hcv, vx_cls hW₁ hcl, st⟩
theorem vx_runS (S : CallFix p m c cc nL s args Ts own) (hM : vx_Met l y ws rm Pc Qc XC mc ms free) (cw : CallB R s args own index y bytes maxL ret ws rm mc ms n ∧ (Cond.static y).before args s = true) (hp : PreS s H Pc As)
    (hg : g.method = m) (hn : As.length = n) (hsize : g.locals.size = nL) (hstack : g.stack = As.reverse ++ rest) (hW : 2 * g.monitorRoom + (rest.map fun v => v.category).sum ≤ 8) (hdg : decode cc g.pc = .ok (.invokestatic index, 3)) (hf : cells + mc ≤ R.cells ∧ slots + ms ≤ R.slots) :
    vx_Run p l e R s m args below meth c H locs cells slots mc ms g rest (Qc As.toArray) XC free := by
  have hK : vx_Back l R p e below s args y 3 8 (PreOf R mc ms Pc) (PostOf Qc mc ms free) (vx_Post XC mc ms free) := vx_callBack cw.1 hM hp.1
  obtain ⟨⟨-, -, -, -, -, -, hcode, hini, hy, hlen, hl⟩, hstt⟩ := cw
  obtain ⟨hx, hb, hml, ho, -⟩ := S
  intro T hT X
  rcases vx_callS X hx (bytes := bytes) (maxL := maxL) (ret := ret) ho hl hstt hini hcode hy hK hg (hsize.trans hml.symm) (argsL := As) (rest := rest) (fun sig h => hn.trans (hlen sig h)) hstack hW (by rw [hb]; exact hdg)
    (fun vm₁ hW₁ => ⟨hf.1, hf.2, hp.2 (T.setVm vm₁) hT hW₁⟩) with ⟨v, vm₁, ⟨U', l2, c2, s2⟩, hW₁, X', ⟨g', mk, t, L, e1, e2, hq, h1, hL, h2, h3⟩, st⟩ | ⟨q, vm₁, ⟨U', l2, c2, s2⟩, hW₁, X', ⟨g', mk, t, L, E, ce, e1, e2, hq, hce, hcv, hcl, h1, hL, h2, h3⟩, st⟩
  · dsimp only [Pt.U, Pt.locs, Pt.cells, Pt.slots] at X' e1 e2 h1 h2 h3 st
    subst h1; subst h2; subst h3
    exact Or.inl ⟨v, (T.setVm vm₁).calling g' mk As.toArray, t, U', L, hT, X', hL, e1, e2, hq, st⟩
  · dsimp only [Pt.U, Pt.locs, Pt.cells, Pt.slots] at X' e1 e2 h1 h2 h3 st hcl
    subst h1; subst h2; subst h3
    exact Or.inr ⟨q, (T.setVm vm₁).calling g' mk As.toArray, t, U', L, E, ce, hT, X', hL, e1, e2, hq, hce, hcv, vx_cls hW₁ hcl, st⟩
end Runs
section Rows
variable {p : Program} {l : Launch} {e : Env} {R : Room} {s : State} {m : MethodId} {args : Array Value} {below : List Frame} {meth : Method} {c : Code} {H : Heap} {locs : List Loc} {cells slots : Nat} {Q : State → Prop}
variable {mc ms : Nat} {free : Addr → Prop} {A0 A1 : Nat → Prop} {H0 : Heap} {a : Array Value} {pc : Nat} {ls : Array Slot} {st0 rest : List Value}
theorem vx_keep {st₀ t T' : State} {L : List Loc} (h0 : st₀.heap = H) (e1 : T'.heap = t.heap) (hS : va_S A0 H0 H locs) (hA : ∀ q, q < H.size → A1 q → A0 q) (hf : ∀ q, free q → A0 q) (hL : ∀ q ∈ L, free q.base) (hF : va_F A1 st₀ t) :
    H.size ≤ T'.heap.size ∧ (∀ q : Nat, q < H.size → ¬ A1 q → T'.heap[q]? = H[q]?) ∧ va_S A0 H0 T'.heap (locs ++ L) := by
  obtain ⟨hz, hk⟩ := hF
  rw [h0] at hz hk
  exact ⟨by rw [e1]; exact hz, fun q h1 h2 => by rw [e1]; exact hk q h1 h2,
    ⟨Nat.le_trans hS.1 (by rw [e1]; exact hz), fun q h1 h2 => by rw [e1, hk q (Nat.lt_of_lt_of_le h1 hS.1) (fun z => h2 (hA q (Nat.lt_of_lt_of_le h1 hS.1) z))]; exact hS.2.1 q h1 h2, fun q hq => by
      rcases List.mem_append.mp hq with h | h
      · exact hS.2.2 q h
      · exact hf _ (hL q h)⟩⟩
theorem vx_calli {S SX : Type} {post : Int32 → S → Prop} {px : SX → Prop} {B : S → State → Prop} {BX : String → SX → State → Prop} {AX : Nat → Prop} (hr : vx_Run p l e R s m args below meth c H locs cells slots mc ms (F0 m pc ls st0) rest (va_Qi post B A1 a) (vx_X px BX AX) free) (hS : va_S A0 H0 H locs) (hA : ∀ q, q < H.size → A1 q → A0 q) (hf : ∀ q, free q → A0 q) (hAX : ∀ q, q < H.size → AX q → A0 q)
    (kx : ∀ (E : String) (ce : Cell) (q9 : Addr) (u : SX) (t : State) (H1 : Heap) (locs1 : List Loc), t.heap = H1 → s.vm.Alike t.vm → px u → BX E u t → H.size ≤ H1.size → (∀ q : Nat, q < H.size → ¬ AX q → H1[q]? = H[q]?) → va_S A0 H0 H1 locs1 → H1[q9]? = some ce → ce.vm = .none → s.vm.findClass E = some ce.cls → vx_W p l e R s m args below meth c H1 locs1 (cells + mc) (slots + ms) Q (F0 m pc ls rest) q9)
    (kk : ∀ (r : Int32) (u : S) (t : State) (H1 : Heap) (locs1 : List Loc), t.heap = H1 → s.vm.Alike t.vm → post r u → B u t → H.size ≤ H1.size → (∀ q : Nat, q < H.size → ¬ A1 q → H1[q]? = H[q]?) → va_S A0 H0 H1 locs1 → W p l e R s m args below meth c H1 locs1 (cells + mc) (slots + ms) Q (F0 m (pc + 3) ls (.int r :: rest))) : W p l e R s m args below meth c H locs cells slots Q (F0 m pc ls st0) := by
  intro T hT X
  rcases hr T hT X with ⟨v, st₀, t, T', L, h0, X', hL, e1, e2, ⟨⟨r, u, hv, hp, hb⟩, hF⟩, st⟩ | ⟨q, st₀, t, T', L, E, ce, h0, X', hL, e1, e2, ⟨u, hp, hb, hF⟩, hce, hcv, hcl, st⟩
  · cases hv
    obtain ⟨k1, k2, k3⟩ := vx_keep h0 e1 hS hA hf hL hF
    obtain ⟨t2, a1, b1⟩ := kk r u t T'.heap (locs ++ L) e1.symm (by rw [← e2]; exact X'.warmed.alike) hp hb k1 k2 k3 T' rfl X'
    exact ⟨t2, st t2 a1, b1⟩
  · obtain ⟨k1, k2, k3⟩ := vx_keep h0 e1 hS hAX hf hL hF
    obtain ⟨t2, a1, b1⟩ := kx E ce q u t T'.heap (locs ++ L) e1.symm (by rw [← e2]; exact X'.warmed.alike) hp hb k1 k2 k3 (by rw [e1]; exact hce) hcv hcl T' rfl X'
    exact ⟨t2, st.trans a1, b1⟩
theorem vx_calll {S SX : Type} {post : Int64 → S → Prop} {px : SX → Prop} {B : S → State → Prop} {BX : String → SX → State → Prop} {AX : Nat → Prop} (hr : vx_Run p l e R s m args below meth c H locs cells slots mc ms (F0 m pc ls st0) rest (va_Ql post B A1 a) (vx_X px BX AX) free) (hS : va_S A0 H0 H locs) (hA : ∀ q, q < H.size → A1 q → A0 q) (hf : ∀ q, free q → A0 q) (hAX : ∀ q, q < H.size → AX q → A0 q)
    (kx : ∀ (E : String) (ce : Cell) (q9 : Addr) (u : SX) (t : State) (H1 : Heap) (locs1 : List Loc), t.heap = H1 → s.vm.Alike t.vm → px u → BX E u t → H.size ≤ H1.size → (∀ q : Nat, q < H.size → ¬ AX q → H1[q]? = H[q]?) → va_S A0 H0 H1 locs1 → H1[q9]? = some ce → ce.vm = .none → s.vm.findClass E = some ce.cls → vx_W p l e R s m args below meth c H1 locs1 (cells + mc) (slots + ms) Q (F0 m pc ls rest) q9)
    (kk : ∀ (r : Int64) (u : S) (t : State) (H1 : Heap) (locs1 : List Loc), t.heap = H1 → s.vm.Alike t.vm → post r u → B u t → H.size ≤ H1.size → (∀ q : Nat, q < H.size → ¬ A1 q → H1[q]? = H[q]?) → va_S A0 H0 H1 locs1 → W p l e R s m args below meth c H1 locs1 (cells + mc) (slots + ms) Q (F0 m (pc + 3) ls (.long r :: rest))) : W p l e R s m args below meth c H locs cells slots Q (F0 m pc ls st0) := by
  intro T hT X
  rcases hr T hT X with ⟨v, st₀, t, T', L, h0, X', hL, e1, e2, ⟨⟨r, u, hv, hp, hb⟩, hF⟩, st⟩ | ⟨q, st₀, t, T', L, E, ce, h0, X', hL, e1, e2, ⟨u, hp, hb, hF⟩, hce, hcv, hcl, st⟩
  · cases hv
    obtain ⟨k1, k2, k3⟩ := vx_keep h0 e1 hS hA hf hL hF
    obtain ⟨t2, a1, b1⟩ := kk r u t T'.heap (locs ++ L) e1.symm (by rw [← e2]; exact X'.warmed.alike) hp hb k1 k2 k3 T' rfl X'
    exact ⟨t2, st t2 a1, b1⟩
  · obtain ⟨k1, k2, k3⟩ := vx_keep h0 e1 hS hAX hf hL hF
    obtain ⟨t2, a1, b1⟩ := kx E ce q u t T'.heap (locs ++ L) e1.symm (by rw [← e2]; exact X'.warmed.alike) hp hb k1 k2 k3 (by rw [e1]; exact hce) hcv hcl T' rfl X'
    exact ⟨t2, st.trans a1, b1⟩
theorem vx_callf {S SX : Type} {post : UInt32 → S → Prop} {px : SX → Prop} {B : S → State → Prop} {BX : String → SX → State → Prop} {AX : Nat → Prop} (hr : vx_Run p l e R s m args below meth c H locs cells slots mc ms (F0 m pc ls st0) rest (va_Qf post B A1 a) (vx_X px BX AX) free) (hS : va_S A0 H0 H locs) (hA : ∀ q, q < H.size → A1 q → A0 q) (hf : ∀ q, free q → A0 q) (hAX : ∀ q, q < H.size → AX q → A0 q)
    (kx : ∀ (E : String) (ce : Cell) (q9 : Addr) (u : SX) (t : State) (H1 : Heap) (locs1 : List Loc), t.heap = H1 → s.vm.Alike t.vm → px u → BX E u t → H.size ≤ H1.size → (∀ q : Nat, q < H.size → ¬ AX q → H1[q]? = H[q]?) → va_S A0 H0 H1 locs1 → H1[q9]? = some ce → ce.vm = .none → s.vm.findClass E = some ce.cls → vx_W p l e R s m args below meth c H1 locs1 (cells + mc) (slots + ms) Q (F0 m pc ls rest) q9)
    (kk : ∀ (r : UInt32) (u : S) (t : State) (H1 : Heap) (locs1 : List Loc), t.heap = H1 → s.vm.Alike t.vm → post r u → B u t → H.size ≤ H1.size → (∀ q : Nat, q < H.size → ¬ A1 q → H1[q]? = H[q]?) → va_S A0 H0 H1 locs1 → W p l e R s m args below meth c H1 locs1 (cells + mc) (slots + ms) Q (F0 m (pc + 3) ls (.float r :: rest))) : W p l e R s m args below meth c H locs cells slots Q (F0 m pc ls st0) := by
  intro T hT X
  rcases hr T hT X with ⟨v, st₀, t, T', L, h0, X', hL, e1, e2, ⟨⟨r, u, hv, hp, hb⟩, hF⟩, st⟩ | ⟨q, st₀, t, T', L, E, ce, h0, X', hL, e1, e2, ⟨u, hp, hb, hF⟩, hce, hcv, hcl, st⟩
  · cases hv
    obtain ⟨k1, k2, k3⟩ := vx_keep h0 e1 hS hA hf hL hF
    obtain ⟨t2, a1, b1⟩ := kk r u t T'.heap (locs ++ L) e1.symm (by rw [← e2]; exact X'.warmed.alike) hp hb k1 k2 k3 T' rfl X'
    exact ⟨t2, st t2 a1, b1⟩
  · obtain ⟨k1, k2, k3⟩ := vx_keep h0 e1 hS hAX hf hL hF
    obtain ⟨t2, a1, b1⟩ := kx E ce q u t T'.heap (locs ++ L) e1.symm (by rw [← e2]; exact X'.warmed.alike) hp hb k1 k2 k3 (by rw [e1]; exact hce) hcv hcl T' rfl X'
    exact ⟨t2, st.trans a1, b1⟩
theorem vx_calld {S SX : Type} {post : UInt64 → S → Prop} {px : SX → Prop} {B : S → State → Prop} {BX : String → SX → State → Prop} {AX : Nat → Prop} (hr : vx_Run p l e R s m args below meth c H locs cells slots mc ms (F0 m pc ls st0) rest (va_Qd post B A1 a) (vx_X px BX AX) free) (hS : va_S A0 H0 H locs) (hA : ∀ q, q < H.size → A1 q → A0 q) (hf : ∀ q, free q → A0 q) (hAX : ∀ q, q < H.size → AX q → A0 q)
    (kx : ∀ (E : String) (ce : Cell) (q9 : Addr) (u : SX) (t : State) (H1 : Heap) (locs1 : List Loc), t.heap = H1 → s.vm.Alike t.vm → px u → BX E u t → H.size ≤ H1.size → (∀ q : Nat, q < H.size → ¬ AX q → H1[q]? = H[q]?) → va_S A0 H0 H1 locs1 → H1[q9]? = some ce → ce.vm = .none → s.vm.findClass E = some ce.cls → vx_W p l e R s m args below meth c H1 locs1 (cells + mc) (slots + ms) Q (F0 m pc ls rest) q9)
    (kk : ∀ (r : UInt64) (u : S) (t : State) (H1 : Heap) (locs1 : List Loc), t.heap = H1 → s.vm.Alike t.vm → post r u → B u t → H.size ≤ H1.size → (∀ q : Nat, q < H.size → ¬ A1 q → H1[q]? = H[q]?) → va_S A0 H0 H1 locs1 → W p l e R s m args below meth c H1 locs1 (cells + mc) (slots + ms) Q (F0 m (pc + 3) ls (.double r :: rest))) : W p l e R s m args below meth c H locs cells slots Q (F0 m pc ls st0) := by
  intro T hT X
  rcases hr T hT X with ⟨v, st₀, t, T', L, h0, X', hL, e1, e2, ⟨⟨r, u, hv, hp, hb⟩, hF⟩, st⟩ | ⟨q, st₀, t, T', L, E, ce, h0, X', hL, e1, e2, ⟨u, hp, hb, hF⟩, hce, hcv, hcl, st⟩
  · cases hv
    obtain ⟨k1, k2, k3⟩ := vx_keep h0 e1 hS hA hf hL hF
    obtain ⟨t2, a1, b1⟩ := kk r u t T'.heap (locs ++ L) e1.symm (by rw [← e2]; exact X'.warmed.alike) hp hb k1 k2 k3 T' rfl X'
    exact ⟨t2, st t2 a1, b1⟩
  · obtain ⟨k1, k2, k3⟩ := vx_keep h0 e1 hS hAX hf hL hF
    obtain ⟨t2, a1, b1⟩ := kx E ce q u t T'.heap (locs ++ L) e1.symm (by rw [← e2]; exact X'.warmed.alike) hp hb k1 k2 k3 (by rw [e1]; exact hce) hcv hcl T' rfl X'
    exact ⟨t2, st.trans a1, b1⟩
theorem vx_callv {S SX : Type} {post : S → Prop} {px : SX → Prop} {B : S → State → Prop} {BX : String → SX → State → Prop} {AX : Nat → Prop} (hr : vx_Run p l e R s m args below meth c H locs cells slots mc ms (F0 m pc ls st0) rest (va_Qv post B A1 a) (vx_X px BX AX) free) (hS : va_S A0 H0 H locs) (hA : ∀ q, q < H.size → A1 q → A0 q) (hf : ∀ q, free q → A0 q) (hAX : ∀ q, q < H.size → AX q → A0 q)
    (kx : ∀ (E : String) (ce : Cell) (q9 : Addr) (u : SX) (t : State) (H1 : Heap) (locs1 : List Loc), t.heap = H1 → s.vm.Alike t.vm → px u → BX E u t → H.size ≤ H1.size → (∀ q : Nat, q < H.size → ¬ AX q → H1[q]? = H[q]?) → va_S A0 H0 H1 locs1 → H1[q9]? = some ce → ce.vm = .none → s.vm.findClass E = some ce.cls → vx_W p l e R s m args below meth c H1 locs1 (cells + mc) (slots + ms) Q (F0 m pc ls rest) q9)
    (kk : ∀ (u : S) (t : State) (H1 : Heap) (locs1 : List Loc), t.heap = H1 → s.vm.Alike t.vm → post u → B u t → H.size ≤ H1.size → (∀ q : Nat, q < H.size → ¬ A1 q → H1[q]? = H[q]?) → va_S A0 H0 H1 locs1 → W p l e R s m args below meth c H1 locs1 (cells + mc) (slots + ms) Q (F0 m (pc + 3) ls (rest))) : W p l e R s m args below meth c H locs cells slots Q (F0 m pc ls st0) := by
  intro T hT X
  rcases hr T hT X with ⟨v, st₀, t, T', L, h0, X', hL, e1, e2, ⟨⟨u, hv, hp, hb⟩, hF⟩, st⟩ | ⟨q, st₀, t, T', L, E, ce, h0, X', hL, e1, e2, ⟨u, hp, hb, hF⟩, hce, hcv, hcl, st⟩
  · cases hv
    obtain ⟨k1, k2, k3⟩ := vx_keep h0 e1 hS hA hf hL hF
    obtain ⟨t2, a1, b1⟩ := kk u t T'.heap (locs ++ L) e1.symm (by rw [← e2]; exact X'.warmed.alike) hp hb k1 k2 k3 T' rfl X'
    exact ⟨t2, st t2 a1, b1⟩
  · obtain ⟨k1, k2, k3⟩ := vx_keep h0 e1 hS hAX hf hL hF
    obtain ⟨t2, a1, b1⟩ := kx E ce q u t T'.heap (locs ++ L) e1.symm (by rw [← e2]; exact X'.warmed.alike) hp hb k1 k2 k3 (by rw [e1]; exact hce) hcv hcl T' rfl X'
    exact ⟨t2, st.trans a1, b1⟩
/-- caught by the row x of this method's table; the rows ahead don't take it -/
theorem vx_catch {own name : String} {E : String} {ce : Cell} {q : Addr} (hown : s.vm.findClass own = some m.cls) (pre : List ExceptionTableEntry) (x : ExceptionTableEntry) (suf : List ExceptionTableEntry) (hsplit : c.exceptionTable.toList = pre ++ x :: suf)
    (hpass : ∀ z ∈ pre, covers z pc = false ∨ (z.catchType ≠ 0 ∧ ∃ nm : String, (Cond.classLink own z.catchType nm).before args s = true ∧ va_Nc E nm s)) (hx : covers x pc = true) (h0 : x.catchType ≠ 0)
    (hlink : (Cond.classLink own x.catchType name).before args s = true) (hcast : (Cond.castable E name).before args s = true) (hcell : H[q]? = some ce) (hv : ce.vm = .none) (hcl : s.vm.findClass E = some ce.cls)
    (kk : W p l e R s m args below meth c H locs cells slots Q (F0 m x.handlerPc ls [.ref q])) : vx_W p l e R s m args below meth c H locs cells slots Q (F0 m pc ls rest) q := by
  intro T hT X
  have hpl : e.platform.magicAccessors = ({} : Platform).magicAccessors := by rw [X.admits.platform]
  obtain ⟨c3, c4, hc3, hc4, hasg⟩ := Cond.castable_spec hcast
  cases Option.some.inj (hc3.symm.trans hcl)
  obtain ⟨c5, hc5, hcl5⟩ := Cond.classLink_spec hown hlink e.platform hpl
  cases Option.some.inj (hc4.symm.trans hc5)
  obtain ⟨vm', X', st⟩ := X.thenCaughtThrough q (g := F0 m pc ls rest) rfl (Steps.refl _) (by rw [hT]; exact hcell) (by rw [hv]; rfl) (by obtain ⟨k9, h9, -⟩ := Vm.findClass_spec hcl; exact ⟨k9, h9⟩) pre x suf hsplit
    (fun z hz => by
      rcases hpass z hz with h | ⟨hz0, nm, hl1, hn1⟩
      · exact Or.inl h
      · obtain ⟨c6, hc6, hcl6⟩ := Cond.classLink_spec hown hl1 e.platform hpl
        obtain ⟨a8, b8, h1, h2, h3⟩ := hn1
        cases Option.some.inj (h1.symm.trans hcl)
        cases Option.some.inj (h2.symm.trans hc6)
        exact Or.inr ⟨hz0, _, hcl6, h3⟩) hx (Or.inr ⟨h0, c4, hcl5, hasg⟩)
  obtain ⟨t, a1, b1⟩ := kk (T.setVm vm') hT X'
  exact ⟨t, st.trans a1, b1⟩
end Rows
section Ends
variable {p : Program} {l : Launch} {e : Env} {R : Room} {s : State} {m : MethodId} {args : Array Value} {below : List Frame} {meth : Method} {c : Code} {H : Heap} {locs : List Loc} {cells slots : Nat} {Q : State → Prop}
variable {mc ms : Nat} {free : Addr → Prop} {A0 A1 : Nat → Prop} {H0 : Heap} {a : Array Value} {ls : Array Slot} {st0 rest : List Value}
variable {Qc : Array Value → State → Outcome → State → Prop} {XC : String → State → State → Prop}
/-- what a body that may throw owes at its end -/
def vx_MQ (below : List Frame) (Qc : Array Value → State → Outcome → State → Prop) (XC : String → State → State → Prop) (a : Array Value) (s : State) (mc ms : Nat) (free : Addr → Prop) : State → Prop := fun t =>
  ∃ o, t.status = .running ∧ Ended t below o ∧ vx_Q Qc XC mc ms free a s o t
theorem vx_ret {g : JFrame} {mc ms : Nat} (k : W p l e R s m args below meth c H locs cells slots (MQ below Qc args s mc ms free) g) : W p l e R s m args below meth c H locs cells slots (vx_MQ below Qc XC args s mc ms free) g := by
  intro T hT X
  obtain ⟨t, a1, o, b1, b2, b3, b4⟩ := k T hT X
  exact ⟨t, a1, o, b1, b2, Or.inl ⟨b3, b4⟩⟩
/-- not caught here: it goes on to the caller -/
theorem vx_widen {g : JFrame} {q : Addr} {k n : Nat} (h1 : cells ≤ k) (h2 : slots ≤ n) (kk : vx_W p l e R s m args below meth c H locs k n Q g q) : vx_W p l e R s m args below meth c H locs cells slots Q g q := fun T hT X => kk T hT (stand_widen X h1 h2)
theorem vx_out {pc : Nat} {E : String} {ce : Cell} {q : Addr} {mc ms : Nat} (hout : ∀ x ∈ c.exceptionTable.toList, covers x pc = false) (hlocks : meth.locks = false) (hcell : H[q]? = some ce) (hv : ce.vm = .none) (hcl : s.vm.findClass E = some ce.cls)
    (hx : ∀ t : State, t.heap = H → s.vm.Alike t.vm → XC E s t) (hf : ∀ z ∈ locs, free z.base) (hc : cells ≤ mc) (hs : slots ≤ ms) :
    vx_W p l e R s m args below meth c H locs cells slots (vx_MQ below Qc XC args s mc ms free) (F0 m pc ls rest) q := by
  intro T hT X
  obtain ⟨st1, hrun, hend, hW, hsm⟩ := X.leaveThrown q (g := F0 m pc ls rest) rfl rfl rfl hout hlocks
  have hcell9 : (T.setFrames (.throwing q :: below)).heap[q]? = some ce := by
    show T.heap[q]? = some ce
    rw [hT]; exact hcell
  exact ⟨_, st1, .threw q, hrun, hend, Or.inr ⟨q, rfl, E, ce, locs, hx _ hT hW.alike, hcell9, hv, hcl, hW, hsm.mono hc hs, hf⟩⟩
theorem vx_frame {U : State} {k n : Nat} (h : s.sameButNew ({ U with vm := s.vm } : State) locs k n) : s.heap.size ≤ U.heap.size ∧ ∀ q : Nat, q < s.heap.size → (∀ z ∈ locs, z.base ≠ q) → U.heap[q]? = s.heap[q]? := by
  obtain ⟨-, h2, -, -, -, h6⟩ := h
  refine ⟨h2, fun q hq hz => ?_⟩
  obtain ⟨c9, e1, e2, e3, e4⟩ := h6 q _ (Array.getElem?_eq_getElem hq)
  have hs : c9.slots = (s.heap[q]).slots := Array.ext_getElem? fun i => e4 i fun hm => hz _ hm rfl
  have h9 : c9 = s.heap[q] := by
    rw [hs] at e2
    exact e2
  have e5 : U.heap[q]? = some c9 := e1
  rw [e5, h9, Array.getElem?_eq_getElem hq]
/-- the words of a throw but the four that speak of the heap -/
def vx_no (w : Cond) : Bool := decide (w ≠ .isRef (.static Bundle.tN "UNASSIGNED_STACK" Bundle.steD)) && decide (w ≠ .isRef (.static Bundle.tN "SUPPRESSED_SENTINEL" Bundle.listD)) && decide (w ≠ .laysStatic Bundle.tN "UNASSIGNED_STACK" Bundle.steD) && decide (w ≠ .laysStatic Bundle.tN "SUPPRESSED_SENTINEL" Bundle.listD)
def vx_at0 (own : String) (ic : Nat) (X : String) (names : List String) : List Cond := (Bundle.ownAtoms0 own ic X names).filter vx_no
def vx_atS (own : String) (ic : Nat) (X : String) (names : List String) : List Cond := (Bundle.ownAtoms own ic X names).filter vx_no
/-- a word that the tables alone decide, or a good one -/
def vx_ot (w : Cond) : Bool := w.onTables || goodWord w
theorem vx_ot_at {args a' : Array Value} {s U : State} {w : Cond} (hW : s.WarmedH U.vm) (hvm : s.vm = U.vm) (hg : vx_ot w = true) (h : w.before args s = true) : w.before a' U = true := by
  simp only [vx_ot, Bool.or_eq_true] at hg
  rcases hg with hg | hg
  · exact va_tabs hg hvm h
  · exact word_at hW (good_of_word hg) h
/-- a list's words: the good ones out of the method's own list, the others by premises of their own -/
theorem vx_hat {args : Array Value} {s : State} {L B : List Cond} (h1 : ∀ w ∈ L.filter goodWord, w.before args s = true) (h2 : ∀ w ∈ L.filter (fun w => !goodWord w), w ∈ B) (h3 : ∀ w ∈ B, w.before args s = true) : ∀ w ∈ L, w.before args s = true := by
  intro w hw
  by_cases g : goodWord w = true
  · exact h1 w (List.mem_filter.mpr ⟨hw, g⟩)
  · refine h3 w (h2 w (List.mem_filter.mpr ⟨hw, ?_⟩))
    show (!goodWord w) = true
    cases hgw : goodWord w
    · rfl
    · exact absurd hgw g
theorem vx_c {args : Array Value} {s : State} {w : Cond} {B : List Cond} (h : w.before args s = true) (t : ∀ w ∈ B, w.before args s = true) : ∀ w' ∈ w :: B, w'.before args s = true := fun w' h' => (List.mem_cons.mp h').elim (fun e => by rw [e]; exact h) (t w')
theorem vx_n {args : Array Value} {s : State} : ∀ w ∈ ([] : List Cond), w.before args s = true := fun _ h => nomatch h
theorem vx_own {args : Array Value} {s : State} {L : List Cond} (h1 : ∀ w ∈ L.filter vx_no, w.before args s = true)
    (hU : (Cond.isRef (.static Bundle.tN "UNASSIGNED_STACK" Bundle.steD)).before args s = true) (hN : (Cond.isRef (.static Bundle.tN "SUPPRESSED_SENTINEL" Bundle.listD)).before args s = true)
    (lU : (Cond.laysStatic Bundle.tN "UNASSIGNED_STACK" Bundle.steD).before args s = true) (lN : (Cond.laysStatic Bundle.tN "SUPPRESSED_SENTINEL" Bundle.listD).before args s = true) : ∀ w ∈ L, w.before args s = true := by
  intro w hw
  by_cases e1 : w = .isRef (.static Bundle.tN "UNASSIGNED_STACK" Bundle.steD)
  · rw [e1]; exact hU
  · by_cases e2 : w = .isRef (.static Bundle.tN "SUPPRESSED_SENTINEL" Bundle.listD)
    · rw [e2]; exact hN
    · by_cases e3 : w = .laysStatic Bundle.tN "UNASSIGNED_STACK" Bundle.steD
      · rw [e3]; exact lU
      · by_cases e4 : w = .laysStatic Bundle.tN "SUPPRESSED_SENTINEL" Bundle.listD
        · rw [e4]; exact lN
        · exact h1 w (List.mem_filter.mpr ⟨hw, by unfold vx_no; rw [decide_eq_true e1, decide_eq_true e2, decide_eq_true e3, decide_eq_true e4]; rfl⟩)
/-- where a static field lies, its class's statics cell in H -/
def vx_L (C n d : String) (A : Nat → Prop) (U : State) (H : Heap) : Prop := ∃ (c : ClassId) (k : Class) (i : Nat) (f : Field) (a : Nat) (cell : Cell), U.vm.findClass C = some c ∧ U.fieldFound? C n d = some (c, k, i, f) ∧ f.isStatic = true ∧ k.statics = some a ∧ H[a]? = some cell ∧ cell.vm.isStatics = true ∧ cell.cls = c ∧ f.slot < cell.slots.size ∧ k.staticTypes[f.slot]? = some f.type ∧ ¬ A a
theorem vx_L.moved {C n d : String} {A : Nat → Prop} {u U : State} {H : Heap} (hvm : u.vm.Alike U.vm) (h : vx_L C n d A u H) : vx_L C n d A U H := by
  obtain ⟨c, k, i, f, a, cell, h1, h2, h3, h4, h5, h6, h7, h8, h9, h10⟩ := h
  obtain ⟨k', hi', he⟩ := State.fieldFound?_setVm hvm h2
  exact ⟨c, k', i, f, a, cell, by rw [hvm.findClass]; exact h1, hi', h3, by rw [he]; exact h4, h5, h6, h7, h8, by rw [he]; exact h9, h10⟩
theorem vx_L.kept {C n d : String} {A : Nat → Prop} {U : State} {H H1 : Heap} (h : vx_L C n d A U H) (hq : ∀ a : Nat, a < H.size → ¬ A a → H1[a]? = H[a]?) : vx_L C n d A U H1 := by
  obtain ⟨c, k, i, f, a, cell, h1, h2, h3, h4, h5, h6, h7, h8, h9, h10⟩ := h
  exact ⟨c, k, i, f, a, cell, h1, h2, h3, h4, by rw [hq a (Array.getElem?_eq_some_iff.mp h5).1 h10]; exact h5, h6, h7, h8, h9, h10⟩
theorem vx_L.narrow {C n d : String} {A B : Nat → Prop} {U : State} {H : Heap} (h : vx_L C n d A U H) (hAB : ∀ q, B q → A q) : vx_L C n d B U H := by
  obtain ⟨c, k, i, f, a, cell, h1, h2, h3, h4, h5, h6, h7, h8, h9, h10⟩ := h
  exact ⟨c, k, i, f, a, cell, h1, h2, h3, h4, h5, h6, h7, h8, h9, fun z => h10 (hAB _ z)⟩
theorem vx_L.word {C n d : String} {A : Nat → Prop} {s : State} {args : Array Value} (h : vx_L C n d A s s.heap) : (Cond.laysStatic C n d).before args s = true := by
  obtain ⟨c, k, i, f, a, cell, h1, h2, h3, h4, h5, h6, h7, h8, h9, -⟩ := h
  show (Cond.laysStatic C n d).holds args s none s [] = true
  exact Cond.laysStatic_of h1 h2 h3 h4 h5 h6 h7 h8 h9
/-- .. and what it holds: null or some reference -/
def vx_Zq (C n d : String) (A : Nat → Prop) (U : State) (H : Heap) : Prop := va_Zq C n d A U H ∧ vx_L C n d A U H
theorem vx_Zq.moved {C n d : String} {A : Nat → Prop} {u U : State} {H : Heap} (hvm : u.vm.Alike U.vm) (h : vx_Zq C n d A u H) : vx_Zq C n d A U H := ⟨va_Zq.moved hvm h.1, vx_L.moved hvm h.2⟩
theorem vx_Zq.kept {C n d : String} {A : Nat → Prop} {U : State} {H H1 : Heap} (h : vx_Zq C n d A U H) (hq : ∀ a : Nat, a < H.size → ¬ A a → H1[a]? = H[a]?) : vx_Zq C n d A U H1 := ⟨va_Zq.kept h.1 hq, vx_L.kept h.2 hq⟩
theorem vx_Zq.narrow {C n d : String} {A B : Nat → Prop} {U : State} {H : Heap} (h : vx_Zq C n d A U H) (hAB : ∀ q, B q → A q) : vx_Zq C n d B U H := ⟨va_Zq.narrow h.1 hAB, vx_L.narrow h.2 hAB⟩
theorem vx_Zqof {args : Array Value} {s : State} {C n d : String} {A : Nat → Prop} (hl : (Cond.laysStatic C n d).before args s = true) (hini : (Cond.initialized C).before args s = true) (h : (Cond.isRef (.static C n d)).before args s = true) (hA : ∀ a : Nat, a < s.heap.size → ¬ A a) : vx_Zq C n d A s s.heap := by
  refine ⟨va_Zqof hl hini h hA, ?_⟩
  obtain ⟨c, k, i, f, a, cell, h1, h2, h3, h4, h5, h6, h7, h8, h9⟩ := Cond.laysStatic_spec hl
  exact ⟨c, k, i, f, a, cell, h1, h2, h3, h4, h5, h6, h7, h8, h9, hA a (Array.getElem?_eq_some_iff.mp h5).1⟩
theorem vx_isRef {C n d : String} {v : Value} {A : Nat → Prop} {s : State} {args : Array Value} (h : va_Z C n d v A s s.heap) (hv : v.isRef = true) : (Cond.isRef (.static C n d)).before args s = true := by
  obtain ⟨cf, kf, fi, f, a, cell, h1, h2, h3, h4, h5, h6, h7, -⟩ := h
  have he : (Term.static C n d).eval args s none [] s = some v := by
    simp [Term.eval, State.fieldNamed?, h1, h2, h4, h5, h6, h7]
  simp only [Cond.before, Cond.holds, Cond.value, he]
  cases v <;> simp_all [Value.isRef]
theorem vx_isRefq {C n d : String} {A : Nat → Prop} {s : State} {args : Array Value} (h : va_Zq C n d A s s.heap) : (Cond.isRef (.static C n d)).before args s = true := by
  rcases h with h | ⟨t, h⟩
  · exact vx_isRef h rfl
  · exact vx_isRef h rfl
/-- the same frame, seen from here: as if the method were called anew in this heap -/
theorem vx_rebase {T : State} (X : Stand p l e R s m args below meth c T locs cells slots) {R' : Room} (hf : R'.frames ≤ R.frames) (hl : R'.locals ≤ R.locals) (hc : cells + R'.cells ≤ R.cells) (hs : slots + R'.slots ≤ R.slots) :
    Stand p l e R' ((T.setVm s.vm).setFrames (.invoking m args :: below)) m args below meth c T [] 0 0 := by
  have htop : (T.setVm s.vm).topJava?.isSome := X.here.top
  have hF : ((T.setVm s.vm).setFrames (.invoking m args :: below)).frames = .invoking m args :: below := State.frames_setFrames _ (State.cur_lt_of_top htop)
  obtain ⟨g₀, hg0⟩ := Option.isSome_iff_exists.mp htop
  obtain ⟨r, hr⟩ := State.topJava?_eq_some.mp hg0
  have hl9 : e.platform.stackLimits (T.setVm s.vm).me = e.platform.stackLimits s.me := X.limits
  have hb9 : (T.setVm s.vm).me.stackBytes = s.me.stackBytes := X.bytes
  refine ⟨X.admits, X.cas, X.clock, hF, ?_, X.hears, X.method, X.code, X.here, X.tail, X.warmed, ?_, ?_, ?_⟩
  · have h := X.room
    have hU : ((T.setVm s.vm).setFrames (.invoking m args :: below)).localsInUse = s.localsInUse := by
      rw [State.localsInUse_invoking hF (meth := meth) (c := c) X.method X.code, State.localsInUse_invoking X.frames X.method X.code]
    simp only [State.hasRoom, Bool.and_eq_true, decide_eq_true_eq] at h ⊢
    obtain ⟨⟨⟨⟨h1, h2, h3, h4, h5, h6⟩, h7⟩, h8⟩, h9⟩ := h
    rw [X.frames, List.length_cons] at h2 h3
    have q1 := X.heapSize
    have q2 := X.used
    simp only [hF, hU, List.length_cons, State.stackLimits_setFrames, State.stackBytes_setFrames, hl9, hb9]
    refine ⟨⟨⟨⟨by omega, by omega, by omega, by omega, by omega, h6⟩, ?_⟩, ?_⟩, X.book⟩
    · show T.heap.size + R'.cells ≤ e.platform.maxCells
      omega
    · show T.slotsUsed + R'.slots ≤ e.platform.maxSlots
      omega
  · rw [State.stackLimits_setFrames]; rfl
  · rw [State.stackBytes_setFrames]; rfl
  · refine ⟨?_, Nat.le_refl _, Nat.le_refl _, ?_, ?_, fun a c9 h9 => ⟨c9, h9, rfl, rfl, fun _ _ => rfl⟩⟩
    · obtain ⟨t, ht, -⟩ := State.frames_cons hr
      show T.setVm s.vm = { ((T.setVm s.vm).setFrames (.invoking m args :: below)).setFrames (T.setVm s.vm).frames with heap := T.heap, slotsUsed := T.slotsUsed }
      rw [State.setFrames_setFrames, State.setFrames_self ht]
      rfl
    · show T.slotsUsed = T.slotsUsed + ((T.heap.toList.drop T.heap.size).map (·.slots.size)).sum
      rw [List.drop_eq_nil_of_le (Nat.le_of_eq Array.length_toList)]
      rfl
    · show ((T.heap.toList.drop T.heap.size).map (·.slots.size)).sum ≤ 0
      rw [List.drop_eq_nil_of_le (Nat.le_of_eq Array.length_toList)]
      exact Nat.le_refl _
/-- 'throw new E()': new; dup; invokespecial; athrow -/
theorem vx_throw0 {cc : ByteArray} {pc : Nat} (hexec : p.tables.exec = Jvm.exec) (hb : c.code = cc) (hl : l.stackTraces = false) {own cls : String} {names : List String} {ik ic mc ms : Nat} {A : Nat → Prop}
    (hown : s.vm.findClass own = some m.cls) (hcls : Bundle.fit cls = true) (hnames : ∀ n ∈ names, Bundle.fit n = true)
    (hk : (Cond.classLink own ik cls).before args s = true) (hini : (Cond.initialized cls).before args s = true) (hat : ∀ w ∈ vx_at0 own ic cls names, w.before args s = true)
    (hgood : ∀ w ∈ Cond.classLink own ik cls :: Cond.initialized cls :: vx_at0 own ic cls names, vx_ot w = true)
    (hU : vx_Zq Bundle.tN "UNASSIGNED_STACK" Bundle.steD A s s.heap) (hN : vx_Zq Bundle.tN "SUPPRESSED_SENTINEL" Bundle.listD A s s.heap) (hS : va_S A s.heap H locs) (hsize : ls.size = c.maxLocals)
    (d0 : decode cc pc = .ok (.new ik, 3)) (d3 : decode cc (pc + 3) = .ok (.dup, 1)) (d4 : decode cc (pc + 4) = .ok (.invokespecial ic, 3)) (d7 : decode cc (pc + 7) = .ok (.athrow, 1))
    (hout : ∀ x ∈ c.exceptionTable.toList, covers x (pc + 7) = false)
    (hRframes : names.length + 3 < R.frames) (hRlocals : (rest.map fun v => v.category).sum + (13 * (names.length + 1) + 42) ≤ R.locals) (hRcells : cells + 1 ≤ R.cells) (hRslots : slots + 6 ≤ R.slots) (hlocks : meth.locks = false)
    (hx : ∀ t : State, s.vm.Alike t.vm → H.size ≤ t.heap.size → (∀ q : Nat, q < H.size → t.heap[q]? = H[q]?) → XC cls s t)
    (hf : ∀ z ∈ locs, free z.base) (hc : cells + 1 ≤ mc) (hs : slots + 6 ≤ ms) :
    W p l e R s m args below meth c H locs cells slots (vx_MQ below Qc XC args s mc ms free) (F0 m pc ls rest) := by
  intro T hT X
  have htr : e.platform.stackTraces = false := (show e.platform.stackTraces = l.stackTraces by rw [X.admits.platform]).trans hl
  have Y := vx_rebase X (R' := { frames := R.frames, locals := R.locals, cells := 1, slots := 6 }) (Nat.le_refl _) (Nat.le_refl _) hRcells hRslots
  obtain ⟨s', hA⟩ : ∃ z, z = (T.setVm s.vm).setFrames (.invoking m args :: below) := ⟨_, rfl⟩
  rw [← hA] at Y
  have hvm : s'.vm = s.vm := by rw [hA]; rfl
  have hhp : s'.heap = H := by rw [hA]; exact hT
  have hW0 : s.WarmedH s'.vm := by rw [hvm]; exact State.WarmedH.refl s
  have hat' : ∀ w ∈ vx_at0 own ic cls names, w.before args s' = true := fun w hw => vx_ot_at hW0 hvm.symm (hgood w (List.mem_cons_of_mem _ (List.mem_cons_of_mem _ hw))) (hat w hw)
  have hk' : (Cond.classLink own ik cls).before args s' = true := vx_ot_at hW0 hvm.symm (hgood _ List.mem_cons_self) hk
  have hini' : (Cond.initialized cls).before args s' = true := vx_ot_at hW0 hvm.symm (hgood _ (List.mem_cons_of_mem _ List.mem_cons_self)) hini
  have hU' : vx_Zq Bundle.tN "UNASSIGNED_STACK" Bundle.steD A s' s'.heap := by rw [hhp]; exact vx_Zq.moved hW0.alike (hU.kept hS.2.1)
  have hN' : vx_Zq Bundle.tN "SUPPRESSED_SENTINEL" Bundle.listD A s' s'.heap := by rw [hhp]; exact vx_Zq.moved hW0.alike (hN.kept hS.2.1)
  have h : ∀ w ∈ Bundle.ownAtoms0 own ic cls names, w.before args s' = true := vx_own hat' (vx_isRefq hU'.1) (vx_isRefq hN'.1) hU'.2.word hN'.2.word
  have hown' : s'.vm.findClass own = some m.cls := by rw [hvm]; exact hown
  have hins : (Cond.instantiable cls 6).before args s' = true := h _ (by simp [Bundle.ownAtoms0])
  obtain ⟨vm₁, cX, kX, hfX, hkX, -, -, X₁, st1⟩ := Y.newCold hexec (own := own) (C := cls) (index := ik) (n := 6) hown' hk' hins hini'
    (g := F0 m pc ls rest) rfl (by rw [hb]; exact d0) (Nat.le_refl _) (Nat.le_refl _)
  generalize hT1 : (T.setVm vm₁).pushCell { cls := cX, slots := kX.instanceTypes.map defaultValue, vm := .none } = T1 at X₁ st1
  have hcat : (Value.ref T.heap.size).category = 1 := rfl
  have hcellA : T1.heap[T.heap.size]? = some (freshCell cX kX) := by rw [← hT1]; exact State.heap_pushCell_size _ _
  have d3' : decode c.code (pc + 3) = .ok (.dup, 1) := by rw [hb]; exact d3
  obtain ⟨U, hsteps, hrun, hend, hW, hsame, ce, hce, hO⟩ := X₁.ctorThrow0 hexec htr (own := own) (cls := cls) (names := names) (ic := ic) hown' hcls hnames h (fun x hx => nomatch hx) hfX hkX hcellA (by rw [hhp, hT]; exact Nat.le_refl _)
    (g := { method := m, pc := pc + 4, locals := ls, stack := .ref T.heap.size :: .ref T.heap.size :: rest, locked := none }) rfl hsize rfl rfl (rest := rest) rfl
    (by rw [hb]; exact d4) (by rw [hb]; exact d7) hout hRframes (by simp only [List.map_cons, List.sum_cons, hcat]; omega) hlocks
  obtain ⟨f1, f2⟩ := vx_frame hsame
  rw [hhp] at f1 f2
  have hWs : s.WarmedH U.vm := State.WarmedH.trans hW0 hW
  have hcl : s.vm.findClass cls = some ce.cls := by
    have h9 := hO.cls
    rw [hvm] at h9
    exact h9
  have hall : s.sameButNew ({ U with vm := s.vm } : State) locs mc ms := by
    subst hA
    obtain ⟨e1, e2⟩ := hsame
    rw [State.setFrames_setFrames] at e1
    have h2 : (T.setVm s.vm).sameButNew ({ U with vm := s.vm } : State) [] (0 + 1) (0 + 6) := ⟨e1, e2⟩
    have h3 := X.same.trans h2
    rw [List.append_nil] at h3
    exact h3.mono hc hs
  refine ⟨U, ?_, .threw T.heap.size, hrun, hend, Or.inr ⟨T.heap.size, rfl, cls, ce, locs, hx U hWs.alike f1 (fun q hq => f2 q hq (fun z hz => nomatch hz)), hce, hO.vm, hcl, hWs, hall, hf⟩⟩
  refine st1 _ ?_
  show Steps p.tables e below (T1.setTop { method := m, pc := pc + 3, locals := ls, stack := .ref T.heap.size :: rest, locked := none }) _
  jvm_step X₁.here [X₁.here.top, hexec, d3', Value.category]
  exact hsteps
/-- 'throw new E("text")': new; dup; ldc; invokespecial; athrow -/
theorem vx_throwS {cc : ByteArray} {pc : Nat} (hexec : p.tables.exec = Jvm.exec) (hb : c.code = cc) (hl : l.stackTraces = false) {own cls text : String} {names : List String} {ik is ic mc ms sa : Nat} {A : Nat → Prop}
    (hown : s.vm.findClass own = some m.cls) (hcls : Bundle.fit cls = true) (hnames : ∀ n ∈ names, Bundle.fit n = true)
    (hk : (Cond.classLink own ik cls).before args s = true) (hini : (Cond.initialized cls).before args s = true) (hstr : vk_R own is text sa s) (hat : ∀ w ∈ vx_atS own ic cls names, w.before args s = true)
    (hgood : ∀ w ∈ Cond.classLink own ik cls :: Cond.initialized cls :: vx_atS own ic cls names, vx_ot w = true)
    (hU : vx_Zq Bundle.tN "UNASSIGNED_STACK" Bundle.steD A s s.heap) (hN : vx_Zq Bundle.tN "SUPPRESSED_SENTINEL" Bundle.listD A s s.heap) (hS : va_S A s.heap H locs) (hsize : ls.size = c.maxLocals)
    (d0 : decode cc pc = .ok (.new ik, 3)) (d3 : decode cc (pc + 3) = .ok (.dup, 1)) (d4 : decode cc (pc + 4) = .ok (.ldc is, 2)) (d6 : decode cc (pc + 6) = .ok (.invokespecial ic, 3)) (d9 : decode cc (pc + 9) = .ok (.athrow, 1))
    (hout : ∀ x ∈ c.exceptionTable.toList, covers x (pc + 9) = false)
    (hRframes : names.length + 3 < R.frames) (hRlocals : (rest.map fun v => v.category).sum + (13 * (names.length + 1) + 43) ≤ R.locals) (hRcells : cells + 1 ≤ R.cells) (hRslots : slots + 6 ≤ R.slots) (hlocks : meth.locks = false)
    (hx : ∀ t : State, s.vm.Alike t.vm → H.size ≤ t.heap.size → (∀ q : Nat, q < H.size → t.heap[q]? = H[q]?) → XC cls s t)
    (hf : ∀ z ∈ locs, free z.base) (hc : cells + 1 ≤ mc) (hs : slots + 6 ≤ ms) :
    W p l e R s m args below meth c H locs cells slots (vx_MQ below Qc XC args s mc ms free) (F0 m pc ls rest) := by
  intro T hT X
  have htr : e.platform.stackTraces = false := (show e.platform.stackTraces = l.stackTraces by rw [X.admits.platform]).trans hl
  have Y := vx_rebase X (R' := { frames := R.frames, locals := R.locals, cells := 1, slots := 6 }) (Nat.le_refl _) (Nat.le_refl _) hRcells hRslots
  obtain ⟨s', hA⟩ : ∃ z, z = (T.setVm s.vm).setFrames (.invoking m args :: below) := ⟨_, rfl⟩
  rw [← hA] at Y
  have hvm : s'.vm = s.vm := by rw [hA]; rfl
  have hhp : s'.heap = H := by rw [hA]; exact hT
  have hW0 : s.WarmedH s'.vm := by rw [hvm]; exact State.WarmedH.refl s
  have hat' : ∀ w ∈ vx_atS own ic cls names, w.before args s' = true := fun w hw => vx_ot_at hW0 hvm.symm (hgood w (List.mem_cons_of_mem _ (List.mem_cons_of_mem _ hw))) (hat w hw)
  have hk' : (Cond.classLink own ik cls).before args s' = true := vx_ot_at hW0 hvm.symm (hgood _ List.mem_cons_self) hk
  have hini' : (Cond.initialized cls).before args s' = true := vx_ot_at hW0 hvm.symm (hgood _ (List.mem_cons_of_mem _ List.mem_cons_self)) hini
  have hU' : vx_Zq Bundle.tN "UNASSIGNED_STACK" Bundle.steD A s' s'.heap := by rw [hhp]; exact vx_Zq.moved hW0.alike (hU.kept hS.2.1)
  have hN' : vx_Zq Bundle.tN "SUPPRESSED_SENTINEL" Bundle.listD A s' s'.heap := by rw [hhp]; exact vx_Zq.moved hW0.alike (hN.kept hS.2.1)
  have h : ∀ w ∈ Bundle.ownAtoms own ic cls names, w.before args s' = true := vx_own hat' (vx_isRefq hU'.1) (vx_isRefq hN'.1) hU'.2.word hN'.2.word
  have hown' : s'.vm.findClass own = some m.cls := by rw [hvm]; exact hown
  have hins : (Cond.instantiable cls 6).before args s' = true := h _ (by simp [Bundle.ownAtoms])
  obtain ⟨vm₁, cX, kX, hfX, hkX, -, -, X₁, st1⟩ := Y.newCold hexec (own := own) (C := cls) (index := ik) (n := 6) hown' hk' hins hini'
    (g := F0 m pc ls rest) rfl (by rw [hb]; exact d0) (Nat.le_refl _) (Nat.le_refl _)
  generalize hT1 : (T.setVm vm₁).pushCell { cls := cX, slots := kX.instanceTypes.map defaultValue, vm := .none } = T1 at X₁ st1
  have hcat : (Value.ref T.heap.size).category = 1 := rfl
  have hcellA : T1.heap[T.heap.size]? = some (freshCell cX kX) := by rw [← hT1]; exact State.heap_pushCell_size _ _
  have d3' : decode c.code (pc + 3) = .ok (.dup, 1) := by rw [hb]; exact d3
  have d4' : decode c.code (pc + 4) = .ok (.ldc is, 2) := by rw [hb]; exact d4
  have hstr' : vk_R own is text sa s' := vk_R.warm hW0 hstr
  obtain ⟨U, hsteps, hrun, hend, hW, hsame, ce, hce, hO⟩ := X₁.ctorThrowS hexec htr (own := own) (cls := cls) (names := names) (ic := ic) hown' hcls hnames h (fun x hx => nomatch hx) hfX hkX hcellA (by rw [hhp, hT]; exact Nat.le_refl _) (msg := .ref sa) rfl
    (g := { method := m, pc := pc + 6, locals := ls, stack := .ref sa :: .ref T.heap.size :: .ref T.heap.size :: rest, locked := none }) rfl hsize rfl rfl (rest := rest) rfl
    (by rw [hb]; exact d6) (by rw [hb]; exact d9) hout hRframes (by simp only [List.map_cons, List.sum_cons, hcat]; omega) hlocks
  obtain ⟨f1, f2⟩ := vx_frame hsame
  rw [hhp] at f1 f2
  have hWs : s.WarmedH U.vm := State.WarmedH.trans hW0 hW
  have hcl : s.vm.findClass cls = some ce.cls := by
    have h9 := hO.cls
    rw [hvm] at h9
    exact h9
  have hall : s.sameButNew ({ U with vm := s.vm } : State) locs mc ms := by
    subst hA
    obtain ⟨e1, e2⟩ := hsame
    rw [State.setFrames_setFrames] at e1
    have h2 : (T.setVm s.vm).sameButNew ({ U with vm := s.vm } : State) [] (0 + 1) (0 + 6) := ⟨e1, e2⟩
    have h3 := X.same.trans h2
    rw [List.append_nil] at h3
    exact h3.mono hc hs
  refine ⟨U, ?_, .threw T.heap.size, hrun, hend, Or.inr ⟨T.heap.size, rfl, cls, ce, locs, hx U hWs.alike f1 (fun q hq => f2 q hq (fun z hz => nomatch hz)), hce, hO.vm, hcl, hWs, hall, hf⟩⟩
  refine st1 _ ?_
  show Steps p.tables e below (T1.setTop { method := m, pc := pc + 3, locals := ls, stack := .ref T.heap.size :: rest, locked := none }) _
  jvm_step X₁.here [X₁.here.top, hexec, d3', Value.category]
  exact X₁.ldcString hexec (own := own) (text := text) (index := is) (a := sa) hown' hstr'.1 hstr'.2
    (g := { method := m, pc := pc + 4, locals := ls, stack := .ref T.heap.size :: .ref T.heap.size :: rest, locked := none }) rfl d4' _ hsteps
/-- 'throw new E("text")', the text by a wide index -/
theorem vx_throwSW {cc : ByteArray} {pc : Nat} (hexec : p.tables.exec = Jvm.exec) (hb : c.code = cc) (hl : l.stackTraces = false) {own cls text : String} {names : List String} {ik is ic mc ms sa : Nat} {A : Nat → Prop}
    (hown : s.vm.findClass own = some m.cls) (hcls : Bundle.fit cls = true) (hnames : ∀ n ∈ names, Bundle.fit n = true)
    (hk : (Cond.classLink own ik cls).before args s = true) (hini : (Cond.initialized cls).before args s = true) (hstr : vk_R own is text sa s) (hat : ∀ w ∈ vx_atS own ic cls names, w.before args s = true)
    (hgood : ∀ w ∈ Cond.classLink own ik cls :: Cond.initialized cls :: vx_atS own ic cls names, vx_ot w = true)
    (hU : vx_Zq Bundle.tN "UNASSIGNED_STACK" Bundle.steD A s s.heap) (hN : vx_Zq Bundle.tN "SUPPRESSED_SENTINEL" Bundle.listD A s s.heap) (hS : va_S A s.heap H locs) (hsize : ls.size = c.maxLocals)
    (d0 : decode cc pc = .ok (.new ik, 3)) (d3 : decode cc (pc + 3) = .ok (.dup, 1)) (d4 : decode cc (pc + 4) = .ok (.ldc_w is, 3)) (d7 : decode cc (pc + 7) = .ok (.invokespecial ic, 3)) (d10 : decode cc (pc + 10) = .ok (.athrow, 1))
    (hout : ∀ x ∈ c.exceptionTable.toList, covers x (pc + 10) = false)
    (hRframes : names.length + 3 < R.frames) (hRlocals : (rest.map fun v => v.category).sum + (13 * (names.length + 1) + 43) ≤ R.locals) (hRcells : cells + 1 ≤ R.cells) (hRslots : slots + 6 ≤ R.slots) (hlocks : meth.locks = false)
    (hx : ∀ t : State, s.vm.Alike t.vm → H.size ≤ t.heap.size → (∀ q : Nat, q < H.size → t.heap[q]? = H[q]?) → XC cls s t)
    (hf : ∀ z ∈ locs, free z.base) (hc : cells + 1 ≤ mc) (hs : slots + 6 ≤ ms) :
    W p l e R s m args below meth c H locs cells slots (vx_MQ below Qc XC args s mc ms free) (F0 m pc ls rest) := by
  intro T hT X
  have htr : e.platform.stackTraces = false := (show e.platform.stackTraces = l.stackTraces by rw [X.admits.platform]).trans hl
  have Y := vx_rebase X (R' := { frames := R.frames, locals := R.locals, cells := 1, slots := 6 }) (Nat.le_refl _) (Nat.le_refl _) hRcells hRslots
  obtain ⟨s', hA⟩ : ∃ z, z = (T.setVm s.vm).setFrames (.invoking m args :: below) := ⟨_, rfl⟩
  rw [← hA] at Y
  have hvm : s'.vm = s.vm := by rw [hA]; rfl
  have hhp : s'.heap = H := by rw [hA]; exact hT
  have hW0 : s.WarmedH s'.vm := by rw [hvm]; exact State.WarmedH.refl s
  have hat' : ∀ w ∈ vx_atS own ic cls names, w.before args s' = true := fun w hw => vx_ot_at hW0 hvm.symm (hgood w (List.mem_cons_of_mem _ (List.mem_cons_of_mem _ hw))) (hat w hw)
  have hk' : (Cond.classLink own ik cls).before args s' = true := vx_ot_at hW0 hvm.symm (hgood _ List.mem_cons_self) hk
  have hini' : (Cond.initialized cls).before args s' = true := vx_ot_at hW0 hvm.symm (hgood _ (List.mem_cons_of_mem _ List.mem_cons_self)) hini
  have hU' : vx_Zq Bundle.tN "UNASSIGNED_STACK" Bundle.steD A s' s'.heap := by rw [hhp]; exact vx_Zq.moved hW0.alike (hU.kept hS.2.1)
  have hN' : vx_Zq Bundle.tN "SUPPRESSED_SENTINEL" Bundle.listD A s' s'.heap := by rw [hhp]; exact vx_Zq.moved hW0.alike (hN.kept hS.2.1)
  have h : ∀ w ∈ Bundle.ownAtoms own ic cls names, w.before args s' = true := vx_own hat' (vx_isRefq hU'.1) (vx_isRefq hN'.1) hU'.2.word hN'.2.word
  have hown' : s'.vm.findClass own = some m.cls := by rw [hvm]; exact hown
  have hins : (Cond.instantiable cls 6).before args s' = true := h _ (by simp [Bundle.ownAtoms])
  obtain ⟨vm₁, cX, kX, hfX, hkX, -, -, X₁, st1⟩ := Y.newCold hexec (own := own) (C := cls) (index := ik) (n := 6) hown' hk' hins hini'
    (g := F0 m pc ls rest) rfl (by rw [hb]; exact d0) (Nat.le_refl _) (Nat.le_refl _)
  generalize hT1 : (T.setVm vm₁).pushCell { cls := cX, slots := kX.instanceTypes.map defaultValue, vm := .none } = T1 at X₁ st1
  have hcat : (Value.ref T.heap.size).category = 1 := rfl
  have hcellA : T1.heap[T.heap.size]? = some (freshCell cX kX) := by rw [← hT1]; exact State.heap_pushCell_size _ _
  have d3' : decode c.code (pc + 3) = .ok (.dup, 1) := by rw [hb]; exact d3
  have d4' : decode c.code (pc + 4) = .ok (.ldc_w is, 3) := by rw [hb]; exact d4
  have hstr' : vk_R own is text sa s' := vk_R.warm hW0 hstr
  obtain ⟨U, hsteps, hrun, hend, hW, hsame, ce, hce, hO⟩ := X₁.ctorThrowS hexec htr (own := own) (cls := cls) (names := names) (ic := ic) hown' hcls hnames h (fun x hx => nomatch hx) hfX hkX hcellA (by rw [hhp, hT]; exact Nat.le_refl _) (msg := .ref sa) rfl
    (g := { method := m, pc := pc + 7, locals := ls, stack := .ref sa :: .ref T.heap.size :: .ref T.heap.size :: rest, locked := none }) rfl hsize rfl rfl (rest := rest) rfl
    (by rw [hb]; exact d7) (by rw [hb]; exact d10) hout hRframes (by simp only [List.map_cons, List.sum_cons, hcat]; omega) hlocks
  obtain ⟨f1, f2⟩ := vx_frame hsame
  rw [hhp] at f1 f2
  have hWs : s.WarmedH U.vm := State.WarmedH.trans hW0 hW
  have hcl : s.vm.findClass cls = some ce.cls := by
    have h9 := hO.cls
    rw [hvm] at h9
    exact h9
  have hall : s.sameButNew ({ U with vm := s.vm } : State) locs mc ms := by
    subst hA
    obtain ⟨e1, e2⟩ := hsame
    rw [State.setFrames_setFrames] at e1
    have h2 : (T.setVm s.vm).sameButNew ({ U with vm := s.vm } : State) [] (0 + 1) (0 + 6) := ⟨e1, e2⟩
    have h3 := X.same.trans h2
    rw [List.append_nil] at h3
    exact h3.mono hc hs
  refine ⟨U, ?_, .threw T.heap.size, hrun, hend, Or.inr ⟨T.heap.size, rfl, cls, ce, locs, hx U hWs.alike f1 (fun q hq => f2 q hq (fun z hz => nomatch hz)), hce, hO.vm, hcl, hWs, hall, hf⟩⟩
  refine st1 _ ?_
  show Steps p.tables e below (T1.setTop { method := m, pc := pc + 3, locals := ls, stack := .ref T.heap.size :: rest, locked := none }) _
  jvm_step X₁.here [X₁.here.top, hexec, d3', Value.category]
  exact X₁.ldcStringW hexec (own := own) (text := text) (index := is) (a := sa) hown' hstr'.1 hstr'.2
    (g := { method := m, pc := pc + 4, locals := ls, stack := .ref T.heap.size :: .ref T.heap.size :: rest, locked := none }) rfl d4' _ hsteps
end Ends
section Bodies
variable {l : Launch}
theorem vx_ofW {y : MethodName} {ws ws' : List Cond} {rm : Room} {Pc : Array Value → State → Prop} {Qc : Array Value → State → Outcome → State → Prop} {XC : String → State → State → Prop} {mc ms : Nat} {free : Addr → Prop} {cc : ByteArray} {maxL : Nat} {ret : Option FieldType}
    (hy : plainName y.cls = true) (hw : ws = Cond.code y cc maxL ret :: ws')
    (body : ∀ p e s m args below meth c s₁, BodyLoose p l y (headSpec ws rm) cc maxL ret e s m args below meth c s₁ → c.maxLocals = maxL → (∀ x ∈ c.exceptionTable.toList, False) → Pc args s →
      W p l e (headSpec ws rm).room s m args below meth c s.heap [] 0 0 (vx_MQ below Qc XC args s mc ms free) (entryFrame m args maxL)) : vx_Met l y ws rm Pc Qc XC mc ms free := by
  refine MetFree.of_bodyS (code := cc) (maxLocals := maxL) (ret := ret) hy ?_ ?_
  · intro args s m h hn
    obtain ⟨meth, c, h1, h2, h3, h4, h5, h6, -, -⟩ := Cond.code_spec hn (atoms_spec (ws := ws) h _ (by rw [hw]; exact List.mem_cons_self))
    exact ⟨meth, c, h1, h2, h3, h4, h5, h6⟩
  · intro p e s m args below meth c s₁ B hml hP _
    have hh0 : s₁.heap = s.heap := by rw [B.state]; rfl
    have ht : ∀ x ∈ c.exceptionTable.toList, False := by
      obtain ⟨meth9, c9, h1, h2, -, -, -, -, h7, -⟩ := Cond.code_spec B.named (atoms_spec (ws := ws) B.pre _ (by rw [hw]; exact List.mem_cons_self))
      cases Option.some.inj (h1.symm.trans B.method)
      cases Option.some.inj (h2.symm.trans (Stand.of_body B).code)
      intro x hx
      rw [Array.isEmpty_iff.mp h7] at hx
      cases hx
    obtain ⟨t, a1, o, b1, b2, b3⟩ := body p e s m args below meth c s₁ B hml ht hP s₁ hh0 (Stand.of_body B)
    exact ⟨t, o, a1, b1, b2, b3⟩
/-- the table of a body with handlers -/
theorem vx_table {p : Program} {x y : MethodName} {S : Spec} {cc bytes : ByteArray} {maxL maxL' : Nat} {ret ret' : Option FieldType} {e : Env} {s s₁ : State} {m : MethodId} {args : Array Value} {below : List Frame} {meth : Method} {c : Code} {hh : List (Nat × Nat × Nat × Nat)}
    (B : BodyLoose p l y S cc maxL ret e s m args below meth c s₁) (h : (Cond.codeWith y bytes maxL' ret' hh).before args s = true) : c.exceptionTable.toList = tableOf hh := by
  obtain ⟨m9, meth9, c9, hn9, h1, h2, -, -, h6, -⟩ := Cond.codeWith_spec h
  cases Option.some.inj (hn9.symm.trans B.named)
  cases Option.some.inj (h1.symm.trans B.method)
  cases Option.some.inj (h2.symm.trans (Stand.of_body B).code)
  rw [← h6, table_eq]
end Bodies
end VXA
/-! ===== END ===== -/
/-! ===== BEGIN a static call of a method with an exception table ===== -/
section VXS
variable {p : Program} {l : Launch} {e : Env} {R : Room} {s : State} {m : MethodId} {args : Array Value} {below : List Frame} {meth : Method} {c : Code} {T : State} {H : Heap} {locs : List Loc} {cells slots : Nat}
abbrev vx_CSW (R : Room) (s : State) (args : Array Value) (own : String) (index : Nat) (y : MethodName) (bytes : ByteArray) (maxL : Nat) (ret : Option FieldType) (hh : List (Nat × Nat × Nat × Nat)) (ws : List Cond) (rm : Room) (mc ms n : Nat) : Prop :=
  (rm.cells = mc ∧ rm.slots = ms ∧ rm.frames + 1 ≤ R.frames ∧ 8 + (maxL + 11) + rm.locals ≤ R.locals ∧ (∀ w ∈ ws, ∀ (a' : Array Value) (U : State), s.WarmedH U.vm → w.before a' U = true) ∧ Cond.codeWith y bytes maxL ret hh ∈ ws) ∧
  (Cond.codeWith y bytes maxL ret hh).before args s = true ∧ (Cond.initialized y.cls).before args s = true ∧ (y.cls ≠ "java/lang/invoke/MethodHandle" ∧ y.cls ≠ "java/lang/invoke/VarHandle") ∧
  (∀ sig, parseMethodDescriptor y.desc = some sig → n = sig.parameters.length) ∧ (Cond.methodLink own index y).before args s = true ∧ (Cond.static y).before args s = true
theorem vx_cwSW {own : String} {index maxL mc ms : Nat} {y : MethodName} {bytes : ByteArray} {ret : Option FieldType} {hh : List (Nat × Nat × Nat × Nat)} {Ts ws ws' : List Cond} {rm : Room} (n : Nat) (ht : ∀ w ∈ Ts, w.before args s = true) (hT : GoodIn Ts (va_wsS own index y ws)) (hw : ws = Cond.codeWith y bytes maxL ret hh :: ws') (hrc : rm.cells = mc) (hrs : rm.slots = ms)
    (hd : y.cls ≠ "java/lang/invoke/MethodHandle" ∧ y.cls ≠ "java/lang/invoke/VarHandle" ∧ (parseMethodDescriptor y.desc).map (fun d => d.parameters.length) = some n) (hR : rm.frames + 1 ≤ R.frames ∧ 8 + (maxL + 11) + rm.locals ≤ R.locals) :
    vx_CSW R s args own index y bytes maxL ret hh ws rm mc ms n := by
  have ok : ∀ w ∈ va_wsS own index y ws, w.before args s = true := fun w h => ht w (hT w h).1
  have hG : GoodIn Ts ws := fun w h => hT w (by unfold va_wsS; exact List.mem_append_right _ h)
  have hc : Cond.codeWith y bytes maxL ret hh ∈ ws := by rw [hw]; exact List.mem_cons_self
  refine ⟨⟨hrc, hrs, hR.1, hR.2, pay_in ht hG, hc⟩, ht _ (hG _ hc).1, ok _ (by simp [va_wsS]), ⟨hd.1, hd.2.1⟩, fun sig h => ?_, ok _ (by simp [va_wsS]), ok _ (by simp [va_wsS])⟩
  have h2 := hd.2.2
  rw [h] at h2
  exact (Option.some.inj h2).symm
theorem vx_callSW (X : Stand p l e R s m args below meth c T locs cells slots) (hexec : p.tables.exec = Jvm.exec) {own : String} {index : Nat} {y : MethodName} {bytes : ByteArray} {maxL : Nat} {ret : Option FieldType} {hh : List (Nat × Nat × Nat × Nat)}
    (hown : s.vm.findClass own = some m.cls) (hlink : (Cond.methodLink own index y).before args s = true) (hstat : (Cond.static y).before args s = true) (hinit : (Cond.initialized y.cls).before args s = true)
    (hcode : (Cond.codeWith y bytes maxL ret hh).before args s = true) (hy : y.cls ≠ "java/lang/invoke/MethodHandle" ∧ y.cls ≠ "java/lang/invoke/VarHandle")
    {W9 : Nat} {Pre : Pt → Array Value → Prop} {Post : Pt → Array Value → Option Value → Pt → Prop} (hK : Back l R p e below s args y 3 W9 Pre Post)
    {g : JFrame} (hg : g.method = m) (hsize : g.locals.size = c.maxLocals) {argsL rest : List Value} (hlen : ∀ sig, parseMethodDescriptor y.desc = some sig → argsL.length = sig.parameters.length)
    (hstack : g.stack = argsL.reverse ++ rest) (hW : 2 * g.monitorRoom + (rest.map fun v => v.category).sum ≤ W9) (hdg : decode c.code g.pc = .ok (.invokestatic index, 3))
    (hpre : ∀ vm₁, s.WarmedH vm₁ → Pre ⟨T.setVm vm₁, locs, cells, slots⟩ argsL.toArray) :
    ∃ (v : Option Value) (vm₁ : Vm) (B : Pt), s.WarmedH vm₁ ∧ Stand p l e R s m args below meth c B.U B.locs B.cells B.slots ∧ Post ⟨T.setVm vm₁, locs, cells, slots⟩ argsL.toArray v B ∧
      ∀ target, Steps p.tables e below (B.U.setTop { g with pc := g.pc + 3, stack := v.toList ++ rest }) target → Steps p.tables e below (T.setTop g) target := by
  obtain ⟨mk, methM, cM, hnamed, hmethM, -, -, -, -, -, -, hsigM⟩ := Cond.codeWith_spec hcode
  have hstatic : methM.isStatic = true := Cond.static_spec hnamed hmethM hstat
  obtain ⟨kP, hkP, -⟩ := className_of_methodNamed hnamed
  have hinitP : kP.init = .initialized := Cond.initialized_spec (findClass_of_methodNamed hnamed) hkP hinit
  obtain ⟨vm₁, X₁, hstep₁⟩ := X.invokestatic hexec hown hlink hnamed hmethM hstatic hkP hinitP hy (g := g) hg (argsL := argsL) (rest := rest) (hlen _ hsigM) hstack hdg
  obtain ⟨v, B, X', hpost, hsteps⟩ := hK m meth c ⟨T.setVm vm₁, locs, cells, slots⟩ { g with stack := rest } (.invokestatic index) mk argsL.toArray X₁ hg hsize hdg hW (X₁.named hnamed) (hpre vm₁ X₁.warmed)
  exact ⟨v, vm₁, B, X₁.warmed, X', hpost, fun target h => hstep₁ _ fun acts => by rw [doInvoke_state]; exact hsteps.trans h⟩
theorem vx_runSW {y : MethodName} {bytes cc : ByteArray} {maxL nL mc ms n index : Nat} {ret : Option FieldType} {hh : List (Nat × Nat × Nat × Nat)} {ws : List Cond} {rm : Room} {Pc : Array Value → State → Prop} {Qc : Array Value → State → Outcome → State → Prop} {free : Addr → Prop} {Ts : List Cond} {own : String} {As rest : List Value} {g : JFrame}
    (S : CallFix p m c cc nL s args Ts own) (hM : Met l y ws rm Pc Qc mc ms free) (cw : vx_CSW R s args own index y bytes maxL ret hh ws rm mc ms n) (hp : PreS s H Pc As)
    (hg : g.method = m) (hn : As.length = n) (hsize : g.locals.size = nL) (hstack : g.stack = As.reverse ++ rest) (hW : 2 * g.monitorRoom + (rest.map fun v => v.category).sum ≤ 8) (hdg : decode cc g.pc = .ok (.invokestatic index, 3)) (hf : cells + mc ≤ R.cells ∧ slots + ms ≤ R.slots) :
    va_Run p l e R s m args below meth c H locs cells slots mc ms g rest (Qc As.toArray) (free) := by
  obtain ⟨⟨hrc, hrs, hfr, hlo, hws, hcw⟩, hcode, hini, hy, hlen, hl, hstt⟩ := cw
  have hK : Back l R p e below s args y 3 8 (PreOf R mc ms Pc) (PostOf Qc mc ms free) := va_backW (hh := hh) (bytes := bytes) (maxL := maxL) (ret := ret) hM hp.1 hrc hrs hfr hlo hws hcw (fun a' U hW => word_at hW (Or.inl (by first | rfl | simp [Cond.onTables, Cond.keeps, Cond.steady])) hini)
  obtain ⟨hx, hb, hml, ho, -⟩ := S
  intro T hT X
  obtain ⟨v, vm₁, ⟨U', l2, c2, s2⟩, hW₁, X', ⟨g', mk, t, L, e1, e2, hq, h1, hL, h2, h3⟩, st⟩ := vx_callSW X hx (hh := hh) (bytes := bytes) (maxL := maxL) (ret := ret) ho hl hstt hini hcode hy hK hg (hsize.trans hml.symm) (argsL := As) (rest := rest) (fun sig h => hn.trans (hlen sig h)) hstack hW (by rw [hb]; exact hdg)
    (fun vm₁ hW₁ => ⟨hf.1, hf.2, hp.2 (T.setVm vm₁) hT hW₁⟩)
  dsimp only [Pt.U, Pt.locs, Pt.cells, Pt.slots] at X' e1 e2 h1 h2 h3 st
  subst h1; subst h2; subst h3
  exact ⟨v, (T.setVm vm₁).calling g' mk As.toArray, t, U', L, hT, X', hL, e1, e2, hq, st⟩
/-- not caught here, past rows that name other classes: it goes on to the caller -/
theorem vx_outP {p : Program} {l : Launch} {e : Env} {R : Room} {s : State} {m : MethodId} {args : Array Value} {below : List Frame} {meth : Method} {c : Code} {H : Heap} {locs : List Loc} {cells slots : Nat} {free : Addr → Prop} {ls : Array Slot} {rest : List Value} {Qc : Array Value → State → Outcome → State → Prop} {XC : String → State → State → Prop}
    {pc : Nat} {own E : String} {ce : Cell} {q : Addr} {mc ms : Nat} (hown : s.vm.findClass own = some m.cls) (hlocks : meth.locks = false)
    (hpass : ∀ z ∈ c.exceptionTable.toList, covers z pc = false ∨ (z.catchType ≠ 0 ∧ ∃ nm : String, (Cond.classLink own z.catchType nm).before args s = true ∧ va_Nc E nm s)) (hcell : H[q]? = some ce) (hv : ce.vm = .none) (hcl : s.vm.findClass E = some ce.cls)
    (hx : ∀ t : State, t.heap = H → s.vm.Alike t.vm → XC E s t) (hf : ∀ z ∈ locs, free z.base) (hc : cells ≤ mc) (hs : slots ≤ ms) :
    vx_W p l e R s m args below meth c H locs cells slots (vx_MQ below Qc XC args s mc ms free) (F0 m pc ls rest) q := by
  intro T hT X
  have hpl : e.platform.magicAccessors = ({} : Platform).magicAccessors := by rw [X.admits.platform]
  obtain ⟨vm', hW', X', st⟩ := X.outThrough hlocks q (g := F0 m pc ls rest) rfl rfl rfl (cell := ce) (by rw [hT]; exact hcell) (by rw [hv]; rfl)
    (by obtain ⟨k9, h9, -⟩ := Vm.findClass_spec hcl; exact ⟨k9, h9⟩) (fun z hz => by
      rcases hpass z hz with h | ⟨hz0, nm, hl1, hn1⟩
      · exact Or.inl h
      · obtain ⟨c6, hc6, hcl6⟩ := Cond.classLink_spec hown hl1 e.platform hpl
        obtain ⟨a8, b8, h1, h2, h3⟩ := hn1
        cases Option.some.inj (h1.symm.trans hcl)
        cases Option.some.inj (h2.symm.trans hc6)
        exact Or.inr ⟨hz0, _, hcl6, h3⟩)
  obtain ⟨g₀, hfr⟩ := X'.frames_eq
  have hcell9 : ((T.setVm vm').setFrames (.throwing q :: below)).heap[q]? = some ce := by
    show T.heap[q]? = some ce
    rw [hT]; exact hcell
  have hend : Ended ((T.setVm vm').setFrames (.throwing q :: below)) below (.threw q) := State.frames_setFrames _ (State.cur_lt_of_frames hfr)
  refine ⟨(T.setVm vm').setFrames (.throwing q :: below), ?_, .threw q, X'.here.running, hend, Or.inr ⟨q, rfl, E, ce, locs, hx _ hT (X'.ends _).1.alike, hcell9, hv, hcl, (X'.ends _).1, (X'.ends _).2.mono hc hs, hf⟩⟩
  rw [X.pushThrowing_eq]
  exact st
/-- a thing of a world lies in the heap -/
theorem vx_lt {D : va_G} {cl : List vw_C} {ws : va_W} {H1 : Heap} (h : va_P D cl ws H1) {k : Nat} {q : Nat × va_E} (hk : ws[k]? = some q) : q.1 < H1.size := (h k q hk).lt
end VXS
/-! ===== END ===== -/
/-! ===== BEGIN methods with a table of their own: called by a name, returning or throwing ===== -/
section VXH
/-! vx_backW, vx_callVX, vx_callSX, vx_callVW, vx_runVW, vx_runVX, vx_runSX, vx_ofWH follow the same proofs as their sisters above (Free/Laws.lean, Shelf42/LK1.lean); vx_outP calls Shelf42/NT130.lean (outThrough). -/
section
variable {l : Launch} {R : Room} {p : Program} {e : Env} {below : List Frame} {s : State} {sargs : Array Value} {y : MethodName} {len W9 : Nat}
theorem vx_backW {ws : List Cond} {rm : Room} {Pc : Array Value → State → Prop} {Qc : Array Value → State → Outcome → State → Prop} {XC : String → State → State → Prop} {mc ms : Nat} {free : Addr → Prop} {bytes : ByteArray} {maxL : Nat} {ret : Option FieldType} {hh : List (Nat × Nat × Nat × Nat)}
    (hM : vx_Met l y ws rm Pc Qc XC mc ms free) (hblind : FrameBlind Pc) (hrc : rm.cells = mc) (hrs : rm.slots = ms)
    (hframes : rm.frames + 1 ≤ R.frames) (hlocals : W9 + (maxL + 11) + rm.locals ≤ R.locals)
    (hws : ∀ w ∈ ws, ∀ a' U, s.WarmedH U.vm → w.before a' U = true) (hcode : Cond.codeWith y bytes maxL ret hh ∈ ws) (hinit : ∀ a' U, s.WarmedH U.vm → (Cond.initialized y.cls).before a' U = true) :
    vx_Back l R p e below s sargs y len W9 (PreOf R mc ms Pc) (PostOf Qc mc ms free) (vx_Post XC mc ms free) := by
  intro m meth c A g ig mk a X hg hsize hdg hW hn hp
  have h1 : (headSpec ws rm).pre.before a A.U = true := atoms_intro fun w hw => hws w hw _ _ X.warmed
  have h2 : (Cond.codeWith y bytes maxL ret hh).before a A.U = true := hws _ hcode _ _ X.warmed
  have h3 : (Cond.initialized y.cls).before a A.U = true := hinit _ _ X.warmed
  have h4 : A.cells + (headSpec ws rm).room.cells ≤ R.cells := by rw [show (headSpec ws rm).room.cells = mc from hrc]; exact hp.1
  have h5 : A.slots + (headSpec ws rm).room.slots ≤ R.slots := by rw [show (headSpec ws rm).room.slots = ms from hrs]; exact hp.2.1
  have hPc : Pc a (A.U.calling g mk a) := hblind _ _ _ _ hp.2.2
  obtain ⟨U, Ls, c0, s0⟩ := A
  dsimp only [Pt.U, Pt.locs, Pt.cells, Pt.slots] at h1 h2 h3 h4 h5 X hn hPc ⊢
  obtain ⟨m9, methY, cY, hn9, hmY, hcY, -, hlY, -⟩ := Cond.codeWith_spec h2
  cases Option.some.inj (hn9.symm.trans hn)
  obtain ⟨kY, hkY, -⟩ := className_of_methodNamed hn
  have hinitY : kY.init = .initialized := Cond.initialized_spec (findClass_of_methodNamed hn) hkY h3
  have h : At U g.method c below := by rw [hg]; exact X.here
  have hlocals9 : W9 + (maxL + 11) + (headSpec ws rm).room.locals ≤ R.locals := hlocals
  have happ : (headSpec ws rm).appliesLoose y e.platform (U.calling g mk a) = true :=
    Spec.appliesLoose_calling (g := g) h hdg hn hkY hinitY
      (X.room_calling (g := g) (R' := (headSpec ws rm).room) hsize hmY hcY hframes (by rw [hlY]; omega) h4 h5) h1
  obtain ⟨mid, hmid⟩ := h.above
  have hfr : (U.setTop g).frames = (.java g :: mid) ++ below := by rw [State.frames_setTop' g h.top, hmid]; rfl
  obtain ⟨o, s₂, hsteps, -, hend, hq⟩ := Steps.callFree hM p X.admits X.cas X.clock (acts := []) hfr happ hPc trivial
  have hq' : vx_Q Qc XC mc ms free a (U.calling g mk a) o s₂ := hq
  rw [State.frames_setTop' g h.top] at hend
  obtain ⟨g₀, hg0⟩ := Option.isSome_iff_exists.mp h.top
  obtain ⟨r, hr⟩ := State.topJava?_eq_some.mp hg0
  have hr' : (({ U with heap := s₂.heap, slotsUsed := s₂.slotsUsed } : State).setVm s₂.vm).frames = .java g₀ :: r := hr
  rcases hq' with ⟨hqc, L, hfe, hL⟩ | ⟨q, rfl, E, ce, L, hx, hce, hcv, hcl, hW₂, hsm, hL⟩
  · obtain ⟨⟨v, rfl⟩, hW₂, e2, q2, q3, q4, q5, q6⟩ := id hfe
    have e3 : s₂ = ({ (U.calling g mk a).setFrames s₂.frames with heap := s₂.heap, slotsUsed := s₂.slotsUsed } : State).setVm s₂.vm := by
      have : s₂ = ({ s₂ with vm := (U.calling g mk a).vm } : State).setVm s₂.vm := rfl
      rw [e2] at this
      exact this
    obtain ⟨c₂, i₂, len₂, hc₂, hd₂, hf₂⟩ := hend
    have hW' : U.WarmedH s₂.vm := hW₂
    have hcc : c₂ = c := by
      have h1 : s₂.code? g.method = U.code? g.method := by
        rw [State.code?_eq, State.code?_eq, hW'.alike.method?]
      exact Option.some.inj (hc₂.symm.trans (h1.trans h.code))
    subst hcc
    have hlen : len₂ = len := by rw [hdg] at hd₂; cases hd₂; rfl
    subst hlen
    have hs₂ : s₂ = (({ U with heap := s₂.heap, slotsUsed := s₂.slotsUsed } : State).setVm s₂.vm).setTop { g with pc := g.pc + len₂, stack := v.toList ++ g.stack } := by
      refine e3.trans ?_
      rw [hf₂, State.calling_eq h.top, State.setFrames_setFrames, State.setTop_of_frames _ hr', hr]
      rfl
    have hsame : U.sameButNew ({ U with heap := s₂.heap, slotsUsed := s₂.slotsUsed } : State) L mc ms := by
      refine ⟨?_, q2, q3, q4, q5, q6⟩
      obtain ⟨t, ht, -⟩ := State.frames_cons hr
      show ({ U with heap := s₂.heap, slotsUsed := s₂.slotsUsed } : State) = { U.setFrames U.frames with heap := s₂.heap, slotsUsed := s₂.slotsUsed }
      rw [State.setFrames_self ht]
    subst hg
    refine Or.inl ⟨v, ⟨(({ U with heap := s₂.heap, slotsUsed := s₂.slotsUsed } : State).setVm s₂.vm), Ls ++ L, c0 + mc, s0 + ms⟩,
      ⟨X.admits, X.cas, X.clock, X.frames, X.room, X.hears, X.method, X.code, (X.here.setHeapUsed s₂.heap s₂.slotsUsed).setVm hW'.alike, X.tail, State.WarmedH.trans X.warmed hW', X.limits, X.bytes, X.same.trans (hsame.setVm s.vm)⟩,
      ⟨g, mk, s₂, L, rfl, rfl, hqc, rfl, hL, rfl, rfl⟩, ?_⟩
    show Steps p.tables e below _ ((({ U with heap := s₂.heap, slotsUsed := s₂.slotsUsed } : State).setVm s₂.vm).setTop { g with pc := g.pc + len₂, stack := v.toList ++ g.stack })
    rw [← hs₂]
    exact hsteps
  · obtain ⟨e2, q2, q3, q4, q5, q6⟩ := id hsm
    have e3 : s₂ = ({ (U.calling g mk a).setFrames s₂.frames with heap := s₂.heap, slotsUsed := s₂.slotsUsed } : State).setVm s₂.vm := by
      have : s₂ = ({ s₂ with vm := (U.calling g mk a).vm } : State).setVm s₂.vm := rfl
      rw [e2] at this
      exact this
    have hf₂ : s₂.frames = .throwing q :: .java g :: U.frames.tail := hend
    have hW' : U.WarmedH s₂.vm := hW₂
    have hs₂ : s₂ = ((({ U with heap := s₂.heap, slotsUsed := s₂.slotsUsed } : State).setVm s₂.vm).setTop g).pushFrame (.throwing q) := by
      refine e3.trans ?_
      rw [hf₂, State.calling_eq h.top, State.setFrames_setFrames, State.pushFrame, State.frames_setTop _ hr', State.setTop_of_frames _ hr', State.setFrames_setFrames, hr]
      rfl
    have hsame : U.sameButNew ({ U with heap := s₂.heap, slotsUsed := s₂.slotsUsed } : State) L mc ms := by
      refine ⟨?_, q2, q3, q4, q5, q6⟩
      obtain ⟨t, ht, -⟩ := State.frames_cons hr
      show ({ U with heap := s₂.heap, slotsUsed := s₂.slotsUsed } : State) = { U.setFrames U.frames with heap := s₂.heap, slotsUsed := s₂.slotsUsed }
      rw [State.setFrames_self ht]
    subst hg
    refine Or.inr ⟨q, ⟨(({ U with heap := s₂.heap, slotsUsed := s₂.slotsUsed } : State).setVm s₂.vm), Ls ++ L, c0 + mc, s0 + ms⟩,
      ⟨X.admits, X.cas, X.clock, X.frames, X.room, X.hears, X.method, X.code, (X.here.setHeapUsed s₂.heap s₂.slotsUsed).setVm hW'.alike, X.tail, State.WarmedH.trans X.warmed hW', X.limits, X.bytes, X.same.trans (hsame.setVm s.vm)⟩,
      ⟨g, mk, s₂, L, E, ce, rfl, rfl, hx, hce, hcv, hcl, rfl, hL, rfl, rfl⟩, ?_⟩
    show Steps p.tables e below _ (((({ U with heap := s₂.heap, slotsUsed := s₂.slotsUsed } : State).setVm s₂.vm).setTop g).pushFrame (.throwing q))
    rw [← hs₂]
    exact hsteps
end
variable {p : Program} {l : Launch} {e : Env} {R : Room} {s : State} {m : MethodId} {args : Array Value} {below : List Frame} {meth : Method} {c : Code} {T : State} {H : Heap} {locs : List Loc} {cells slots : Nat}
theorem vx_callVX (X : Stand p l e R s m args below meth c T locs cells slots) (hexec : p.tables.exec = Jvm.exec) {own C : String} {index : Nat} {y : MethodName} {bytes : ByteArray} {maxL : Nat} {ret : Option FieldType} {hh : List (Nat × Nat × Nat × Nat)}
    (hown : s.vm.findClass own = some m.cls) (hlink : (Cond.methodLink own index y).before args s = true) (hinst : (Cond.instanceMethod y).before args s = true) (hsel : (Cond.selects C y y).before args s = true)
    (hcode : (Cond.codeWith y bytes maxL ret hh).before args s = true) (hy : y.cls ≠ "java/lang/invoke/MethodHandle" ∧ y.cls ≠ "java/lang/invoke/VarHandle")
    {W9 : Nat} {Pre : Pt → Array Value → Prop} {Post : Pt → Array Value → Option Value → Pt → Prop} {PostX : Pt → Array Value → Addr → Pt → Prop} (hK : vx_Back l R p e below s args y 3 W9 Pre Post PostX)
    {b : Addr} {cellB : Cell} (hcell : T.heap[b]? = some cellB) (hobj : cellB.vm.isStatics = false) (hcls : s.vm.findClass C = some cellB.cls)
    {g : JFrame} (hg : g.method = m) (hsize : g.locals.size = c.maxLocals) {argsL rest : List Value} (hlen : ∀ sig, parseMethodDescriptor y.desc = some sig → argsL.length = sig.parameters.length)
    (hstack : g.stack = argsL.reverse ++ .ref b :: rest) (hW : 2 * g.monitorRoom + (rest.map fun v => v.category).sum ≤ W9) (hdg : decode c.code g.pc = .ok (.invokevirtual index, 3))
    (hpre : ∀ vm₁, s.WarmedH vm₁ → Pre ⟨T.setVm vm₁, locs, cells, slots⟩ (Value.ref b :: argsL).toArray) :
    (∃ (v : Option Value) (vm₁ : Vm) (B : Pt), s.WarmedH vm₁ ∧ Stand p l e R s m args below meth c B.U B.locs B.cells B.slots ∧ Post ⟨T.setVm vm₁, locs, cells, slots⟩ (Value.ref b :: argsL).toArray v B ∧
      ∀ target, Steps p.tables e below (B.U.setTop { g with pc := g.pc + 3, stack := v.toList ++ rest }) target → Steps p.tables e below (T.setTop g) target) ∨
    (∃ (q : Addr) (vm₁ : Vm) (B : Pt), s.WarmedH vm₁ ∧ Stand p l e R s m args below meth c B.U B.locs B.cells B.slots ∧ PostX ⟨T.setVm vm₁, locs, cells, slots⟩ (Value.ref b :: argsL).toArray q B ∧
      Steps p.tables e below (T.setTop g) ((B.U.setTop { g with stack := rest }).pushFrame (.throwing q))) := by
  obtain ⟨mk, methM, hnamed, hmethM, hstM, habM⟩ := Cond.instanceMethod_spec hinst
  obtain ⟨m8, methM', cM, hn8, hmethM', -, -, -, -, -, -, hsigM⟩ := Cond.codeWith_spec hcode
  cases Option.some.inj (hn8.symm.trans hnamed)
  cases hmethM.symm.trans hmethM'
  obtain ⟨c2, r2, m2, q1, q2, q3, q4, kP, hkP, hkPi⟩ := Cond.selects_spec hsel
  cases hcls.symm.trans q1
  cases (State.methodFound?_of_named hnamed hy).symm.trans q2
  cases hnamed.symm.trans q3
  have hselP : selectMethod e.platform s.vm cellB.cls mk = .method mk := by rw [Launch.admits_selectMethod X.admits]; exact q4
  obtain ⟨vm₁, X₁, hstep₁⟩ := X.invokevirtual hexec hown hlink hnamed hmethM hstM hkP hkPi hy (a := b) (cell := cellB) hcell
    (fun z h => by rw [h] at hobj; cases hobj) hselP hmethM habM hkP hkPi (g := g) hg (argsL := argsL) (rest := rest) (hlen _ hsigM) hstack hdg
  rcases hK m meth c ⟨T.setVm vm₁, locs, cells, slots⟩ { g with stack := rest } (.invokevirtual index) mk (Value.ref b :: argsL).toArray X₁ hg hsize hdg hW (X₁.named hnamed) (hpre vm₁ X₁.warmed) with ⟨v, B, X', hpost, hsteps⟩ | ⟨q, B, X', hpost, hsteps⟩
  · exact Or.inl ⟨v, vm₁, B, X₁.warmed, X', hpost, fun target h => hstep₁ _ fun acts => by rw [doInvoke_state]; exact hsteps.trans h⟩
  · exact Or.inr ⟨q, vm₁, B, X₁.warmed, X', hpost, hstep₁ _ fun acts => by rw [doInvoke_state]; exact hsteps⟩
theorem vx_callSX (X : Stand p l e R s m args below meth c T locs cells slots) (hexec : p.tables.exec = Jvm.exec) {own : String} {index : Nat} {y : MethodName} {bytes : ByteArray} {maxL : Nat} {ret : Option FieldType} {hh : List (Nat × Nat × Nat × Nat)}
    (hown : s.vm.findClass own = some m.cls) (hlink : (Cond.methodLink own index y).before args s = true) (hstat : (Cond.static y).before args s = true) (hinit : (Cond.initialized y.cls).before args s = true)
    (hcode : (Cond.codeWith y bytes maxL ret hh).before args s = true) (hy : y.cls ≠ "java/lang/invoke/MethodHandle" ∧ y.cls ≠ "java/lang/invoke/VarHandle")
    {W9 : Nat} {Pre : Pt → Array Value → Prop} {Post : Pt → Array Value → Option Value → Pt → Prop} {PostX : Pt → Array Value → Addr → Pt → Prop} (hK : vx_Back l R p e below s args y 3 W9 Pre Post PostX)
    {g : JFrame} (hg : g.method = m) (hsize : g.locals.size = c.maxLocals) {argsL rest : List Value} (hlen : ∀ sig, parseMethodDescriptor y.desc = some sig → argsL.length = sig.parameters.length)
    (hstack : g.stack = argsL.reverse ++ rest) (hW : 2 * g.monitorRoom + (rest.map fun v => v.category).sum ≤ W9) (hdg : decode c.code g.pc = .ok (.invokestatic index, 3))
    (hpre : ∀ vm₁, s.WarmedH vm₁ → Pre ⟨T.setVm vm₁, locs, cells, slots⟩ argsL.toArray) :
    (∃ (v : Option Value) (vm₁ : Vm) (B : Pt), s.WarmedH vm₁ ∧ Stand p l e R s m args below meth c B.U B.locs B.cells B.slots ∧ Post ⟨T.setVm vm₁, locs, cells, slots⟩ argsL.toArray v B ∧
      ∀ target, Steps p.tables e below (B.U.setTop { g with pc := g.pc + 3, stack := v.toList ++ rest }) target → Steps p.tables e below (T.setTop g) target) ∨
    (∃ (q : Addr) (vm₁ : Vm) (B : Pt), s.WarmedH vm₁ ∧ Stand p l e R s m args below meth c B.U B.locs B.cells B.slots ∧ PostX ⟨T.setVm vm₁, locs, cells, slots⟩ argsL.toArray q B ∧
      Steps p.tables e below (T.setTop g) ((B.U.setTop { g with stack := rest }).pushFrame (.throwing q))) := by
  obtain ⟨mk, methM, cM, hnamed, hmethM, -, -, -, -, -, -, hsigM⟩ := Cond.codeWith_spec hcode
  have hstatic : methM.isStatic = true := Cond.static_spec hnamed hmethM hstat
  obtain ⟨kP, hkP, -⟩ := className_of_methodNamed hnamed
  have hinitP : kP.init = .initialized := Cond.initialized_spec (findClass_of_methodNamed hnamed) hkP hinit
  obtain ⟨vm₁, X₁, hstep₁⟩ := X.invokestatic hexec hown hlink hnamed hmethM hstatic hkP hinitP hy (g := g) hg (argsL := argsL) (rest := rest) (hlen _ hsigM) hstack hdg
  rcases hK m meth c ⟨T.setVm vm₁, locs, cells, slots⟩ { g with stack := rest } (.invokestatic index) mk argsL.toArray X₁ hg hsize hdg hW (X₁.named hnamed) (hpre vm₁ X₁.warmed) with ⟨v, B, X', hpost, hsteps⟩ | ⟨q, B, X', hpost, hsteps⟩
  · exact Or.inl ⟨v, vm₁, B, X₁.warmed, X', hpost, fun target h => hstep₁ _ fun acts => by rw [doInvoke_state]; exact hsteps.trans h⟩
  · exact Or.inr ⟨q, vm₁, B, X₁.warmed, X', hpost, hstep₁ _ fun acts => by rw [doInvoke_state]; exact hsteps⟩
theorem vx_callVW (X : Stand p l e R s m args below meth c T locs cells slots) (hexec : p.tables.exec = Jvm.exec) {own C : String} {index : Nat} {y : MethodName} {bytes : ByteArray} {maxL : Nat} {ret : Option FieldType} {hh : List (Nat × Nat × Nat × Nat)}
    (hown : s.vm.findClass own = some m.cls) (hlink : (Cond.methodLink own index y).before args s = true) (hinst : (Cond.instanceMethod y).before args s = true) (hsel : (Cond.selects C y y).before args s = true)
    (hcode : (Cond.codeWith y bytes maxL ret hh).before args s = true) (hy : y.cls ≠ "java/lang/invoke/MethodHandle" ∧ y.cls ≠ "java/lang/invoke/VarHandle")
    {W9 : Nat} {Pre : Pt → Array Value → Prop} {Post : Pt → Array Value → Option Value → Pt → Prop} (hK : Back l R p e below s args y 3 W9 Pre Post)
    {b : Addr} {cellB : Cell} (hcell : T.heap[b]? = some cellB) (hobj : cellB.vm.isStatics = false) (hcls : s.vm.findClass C = some cellB.cls)
    {g : JFrame} (hg : g.method = m) (hsize : g.locals.size = c.maxLocals) {argsL rest : List Value} (hlen : ∀ sig, parseMethodDescriptor y.desc = some sig → argsL.length = sig.parameters.length)
    (hstack : g.stack = argsL.reverse ++ .ref b :: rest) (hW : 2 * g.monitorRoom + (rest.map fun v => v.category).sum ≤ W9) (hdg : decode c.code g.pc = .ok (.invokevirtual index, 3))
    (hpre : ∀ vm₁, s.WarmedH vm₁ → Pre ⟨T.setVm vm₁, locs, cells, slots⟩ (Value.ref b :: argsL).toArray) :
    ∃ (v : Option Value) (vm₁ : Vm) (B : Pt), s.WarmedH vm₁ ∧ Stand p l e R s m args below meth c B.U B.locs B.cells B.slots ∧ Post ⟨T.setVm vm₁, locs, cells, slots⟩ (Value.ref b :: argsL).toArray v B ∧
      ∀ target, Steps p.tables e below (B.U.setTop { g with pc := g.pc + 3, stack := v.toList ++ rest }) target → Steps p.tables e below (T.setTop g) target := by
  obtain ⟨mk, methM, hnamed, hmethM, hstM, habM⟩ := Cond.instanceMethod_spec hinst
  obtain ⟨m8, methM', cM, hn8, hmethM', -, -, -, -, -, -, hsigM⟩ := Cond.codeWith_spec hcode
  cases Option.some.inj (hn8.symm.trans hnamed)
  cases hmethM.symm.trans hmethM'
  obtain ⟨c2, r2, m2, q1, q2, q3, q4, kP, hkP, hkPi⟩ := Cond.selects_spec hsel
  cases hcls.symm.trans q1
  cases (State.methodFound?_of_named hnamed hy).symm.trans q2
  cases hnamed.symm.trans q3
  have hselP : selectMethod e.platform s.vm cellB.cls mk = .method mk := by rw [Launch.admits_selectMethod X.admits]; exact q4
  obtain ⟨vm₁, X₁, hstep₁⟩ := X.invokevirtual hexec hown hlink hnamed hmethM hstM hkP hkPi hy (a := b) (cell := cellB) hcell
    (fun z h => by rw [h] at hobj; cases hobj) hselP hmethM habM hkP hkPi (g := g) hg (argsL := argsL) (rest := rest) (hlen _ hsigM) hstack hdg
  obtain ⟨v, B, X', hpost, hsteps⟩ := hK m meth c ⟨T.setVm vm₁, locs, cells, slots⟩ { g with stack := rest } (.invokevirtual index) mk (Value.ref b :: argsL).toArray X₁ hg hsize hdg hW (X₁.named hnamed) (hpre vm₁ X₁.warmed)
  exact ⟨v, vm₁, B, X₁.warmed, X', hpost, fun target h => hstep₁ _ fun acts => by rw [doInvoke_state]; exact hsteps.trans h⟩
abbrev vx_CVW (R : Room) (s : State) (args : Array Value) (own C : String) (index : Nat) (y : MethodName) (bytes : ByteArray) (maxL : Nat) (ret : Option FieldType) (hh : List (Nat × Nat × Nat × Nat)) (ws : List Cond) (rm : Room) (mc ms n : Nat) : Prop :=
  (rm.cells = mc ∧ rm.slots = ms ∧ rm.frames + 1 ≤ R.frames ∧ 8 + (maxL + 11) + rm.locals ≤ R.locals ∧ (∀ w ∈ ws, ∀ (a' : Array Value) (U : State), s.WarmedH U.vm → w.before a' U = true) ∧ Cond.codeWith y bytes maxL ret hh ∈ ws) ∧
  (Cond.codeWith y bytes maxL ret hh).before args s = true ∧ (Cond.initialized y.cls).before args s = true ∧ (y.cls ≠ "java/lang/invoke/MethodHandle" ∧ y.cls ≠ "java/lang/invoke/VarHandle") ∧
  (∀ sig, parseMethodDescriptor y.desc = some sig → n = sig.parameters.length) ∧ (Cond.methodLink own index y).before args s = true ∧ (Cond.instanceMethod y).before args s = true ∧ (Cond.selects C y y).before args s = true
theorem vx_cwVW {own C : String} {index maxL mc ms : Nat} {y : MethodName} {bytes : ByteArray} {ret : Option FieldType} {hh : List (Nat × Nat × Nat × Nat)} {Ts ws ws' : List Cond} {rm : Room} (n : Nat) (ht : ∀ w ∈ Ts, w.before args s = true) (hT : GoodIn Ts (wsV own index C y ws)) (hw : ws = Cond.codeWith y bytes maxL ret hh :: ws') (hrc : rm.cells = mc) (hrs : rm.slots = ms)
    (hd : y.cls = C ∧ y.cls ≠ "java/lang/invoke/MethodHandle" ∧ y.cls ≠ "java/lang/invoke/VarHandle" ∧ (parseMethodDescriptor y.desc).map (fun d => d.parameters.length) = some n) (hR : rm.frames + 1 ≤ R.frames ∧ 8 + (maxL + 11) + rm.locals ≤ R.locals) :
    vx_CVW R s args own C index y bytes maxL ret hh ws rm mc ms n := by
  obtain ⟨hC, hd⟩ := hd
  subst hC
  have ok : ∀ w ∈ wsV own index y.cls y ws, w.before args s = true := fun w h => ht w (hT w h).1
  have hG : GoodIn Ts ws := fun w h => hT w (by unfold wsV; exact List.mem_append_right _ h)
  have hc : Cond.codeWith y bytes maxL ret hh ∈ ws := by rw [hw]; exact List.mem_cons_self
  refine ⟨⟨hrc, hrs, hR.1, hR.2, pay_in ht hG, hc⟩, ht _ (hG _ hc).1, ok _ (by simp [wsV]), ⟨hd.1, hd.2.1⟩, fun sig h => ?_, ok _ (by simp [wsV]), ok _ (by simp [wsV]), ok _ (by simp [wsV])⟩
  have h2 := hd.2.2
  rw [h] at h2
  exact (Option.some.inj h2).symm
theorem vx_runVW {y : MethodName} {bytes cc : ByteArray} {maxL nL mc ms n index : Nat} {ret : Option FieldType} {hh : List (Nat × Nat × Nat × Nat)} {ws : List Cond} {rm : Room} {Pc : Array Value → State → Prop} {Qc : Array Value → State → Outcome → State → Prop} {free : Addr → Prop} {Ts : List Cond} {own C : String} {b : Addr} {As rest : List Value} {g : JFrame}
    (S : CallFix p m c cc nL s args Ts own) (hM : Met l y ws rm Pc Qc mc ms free) (cw : vx_CVW R s args own C index y bytes maxL ret hh ws rm mc ms n) (hp : PreV s H C b Pc As)
    (hg : g.method = m) (hn : As.length = n) (hsize : g.locals.size = nL) (hstack : g.stack = As.reverse ++ .ref b :: rest) (hW : 2 * g.monitorRoom + (rest.map fun v => v.category).sum ≤ 8) (hdg : decode cc g.pc = .ok (.invokevirtual index, 3)) (hf : cells + mc ≤ R.cells ∧ slots + ms ≤ R.slots) :
    va_Run p l e R s m args below meth c H locs cells slots mc ms g rest (Qc (Value.ref b :: As).toArray) free := by
  obtain ⟨⟨hrc, hrs, hfr, hlo, hws, hcw⟩, hcode, hini, hy, hlen, hl, hin, hse⟩ := cw
  have hK : Back l R p e below s args y 3 8 (PreOf R mc ms Pc) (PostOf Qc mc ms free) := va_backW (hh := hh) (bytes := bytes) (maxL := maxL) (ret := ret) hM hp.1 hrc hrs hfr hlo hws hcw (fun a' U hW => word_at hW (Or.inl (by first | rfl | simp [Cond.onTables, Cond.keeps, Cond.steady])) hini)
  obtain ⟨hx, hb, hml, ho, -⟩ := S
  obtain ⟨-, ⟨cellB, hcB, hoB, hclB⟩, hPc⟩ := hp
  intro T hT X
  obtain ⟨v, vm₁, ⟨U', l2, c2, s2⟩, hW₁, X', ⟨g', mk, t, L, e1, e2, hq, h1, hL, h2, h3⟩, st⟩ := vx_callVW X hx (C := C) (hh := hh) (bytes := bytes) (maxL := maxL) (ret := ret) ho hl hin hse hcode hy hK (by rw [hT]; exact hcB) hoB hclB hg (hsize.trans hml.symm) (argsL := As) (rest := rest) (fun sig h => hn.trans (hlen sig h)) hstack hW (by rw [hb]; exact hdg)
    (fun vm₁ hW₁ => ⟨hf.1, hf.2, hPc (T.setVm vm₁) hT hW₁⟩)
  dsimp only [Pt.U, Pt.locs, Pt.cells, Pt.slots] at X' e1 e2 h1 h2 h3 st
  subst h1; subst h2; subst h3
  exact ⟨v, (T.setVm vm₁).calling g' mk (Value.ref b :: As).toArray, t, U', L, hT, X', hL, e1, e2, hq, st⟩
section
variable {y : MethodName} {bytes cc : ByteArray} {maxL nL mc ms n index : Nat} {ret : Option FieldType} {ws : List Cond} {rm : Room} {Pc : Array Value → State → Prop} {Qc : Array Value → State → Outcome → State → Prop} {XC : String → State → State → Prop} {free : Addr → Prop} {Ts : List Cond} {own C : String} {b : Addr} {As rest : List Value} {g : JFrame}
theorem vx_runVX {hh : List (Nat × Nat × Nat × Nat)} (S : CallFix p m c cc nL s args Ts own) (hM : vx_Met l y ws rm Pc Qc XC mc ms free) (cw : vx_CVW R s args own C index y bytes maxL ret hh ws rm mc ms n) (hp : PreV s H C b Pc As)
    (hg : g.method = m) (hn : As.length = n) (hsize : g.locals.size = nL) (hstack : g.stack = As.reverse ++ .ref b :: rest) (hW : 2 * g.monitorRoom + (rest.map fun v => v.category).sum ≤ 8) (hdg : decode cc g.pc = .ok (.invokevirtual index, 3)) (hf : cells + mc ≤ R.cells ∧ slots + ms ≤ R.slots) :
    vx_Run p l e R s m args below meth c H locs cells slots mc ms g rest (Qc (Value.ref b :: As).toArray) XC free := by
  obtain ⟨⟨hrc, hrs, hfr, hlo, hws, hcw⟩, hcode, hini, hy, hlen, hl, hin, hse⟩ := cw
  have hK : vx_Back l R p e below s args y 3 8 (PreOf R mc ms Pc) (PostOf Qc mc ms free) (vx_Post XC mc ms free) := vx_backW (hh := hh) (bytes := bytes) (maxL := maxL) (ret := ret) hM hp.1 hrc hrs hfr hlo hws hcw (fun a' U hW => word_at hW (Or.inl (by first | rfl | simp [Cond.onTables, Cond.keeps, Cond.steady])) hini)
  obtain ⟨hx, hb, hml, ho, -⟩ := S
  obtain ⟨-, ⟨cellB, hcB, hoB, hclB⟩, hPc⟩ := hp
  intro T hT X
  rcases vx_callVX X hx (C := C) (hh := hh) (bytes := bytes) (maxL := maxL) (ret := ret) ho hl hin hse hcode hy hK (by rw [hT]; exact hcB) hoB hclB hg (hsize.trans hml.symm) (argsL := As) (rest := rest) (fun sig h => hn.trans (hlen sig h)) hstack hW (by rw [hb]; exact hdg)
    (fun vm₁ hW₁ => ⟨hf.1, hf.2, hPc (T.setVm vm₁) hT hW₁⟩) with ⟨v, vm₁, ⟨U', l2, c2, s2⟩, hW₁, X', ⟨g', mk, t, L, e1, e2, hq, h1, hL, h2, h3⟩, st⟩ | ⟨q, vm₁, ⟨U', l2, c2, s2⟩, hW₁, X', ⟨g', mk, t, L, E, ce, e1, e2, hq, hce, hcv, hcl, h1, hL, h2, h3⟩, st⟩
  · dsimp only [Pt.U, Pt.locs, Pt.cells, Pt.slots] at X' e1 e2 h1 h2 h3 st
    subst h1; subst h2; subst h3
    exact Or.inl ⟨v, (T.setVm vm₁).calling g' mk (Value.ref b :: As).toArray, t, U', L, hT, X', hL, e1, e2, hq, st⟩
  · dsimp only [Pt.U, Pt.locs, Pt.cells, Pt.slots] at X' e1 e2 h1 h2 h3 st hcl
    subst h1; subst h2; subst h3
    exact Or.inr ⟨q, (T.setVm vm₁).calling g' mk (Value.ref b :: As).toArray, t, U', L, E, ce, hT, X', hL, e1, e2, hq, hce, hcv, vx_cls hW₁ hcl, st⟩
theorem vx_runSX {hh : List (Nat × Nat × Nat × Nat)} (S : CallFix p m c cc nL s args Ts own) (hM : vx_Met l y ws rm Pc Qc XC mc ms free) (cw : vx_CSW R s args own index y bytes maxL ret hh ws rm mc ms n) (hp : PreS s H Pc As)
    (hg : g.method = m) (hn : As.length = n) (hsize : g.locals.size = nL) (hstack : g.stack = As.reverse ++ rest) (hW : 2 * g.monitorRoom + (rest.map fun v => v.category).sum ≤ 8) (hdg : decode cc g.pc = .ok (.invokestatic index, 3)) (hf : cells + mc ≤ R.cells ∧ slots + ms ≤ R.slots) :
    vx_Run p l e R s m args below meth c H locs cells slots mc ms g rest (Qc As.toArray) XC free := by
  obtain ⟨⟨hrc, hrs, hfr, hlo, hws, hcw⟩, hcode, hini, hy, hlen, hl, hstt⟩ := cw
  have hK : vx_Back l R p e below s args y 3 8 (PreOf R mc ms Pc) (PostOf Qc mc ms free) (vx_Post XC mc ms free) := vx_backW (hh := hh) (bytes := bytes) (maxL := maxL) (ret := ret) hM hp.1 hrc hrs hfr hlo hws hcw (fun a' U hW => word_at hW (Or.inl (by first | rfl | simp [Cond.onTables, Cond.keeps, Cond.steady])) hini)
  obtain ⟨hx, hb, hml, ho, -⟩ := S
  intro T hT X
  rcases vx_callSX X hx (hh := hh) (bytes := bytes) (maxL := maxL) (ret := ret) ho hl hstt hini hcode hy hK hg (hsize.trans hml.symm) (argsL := As) (rest := rest) (fun sig h => hn.trans (hlen sig h)) hstack hW (by rw [hb]; exact hdg)
    (fun vm₁ hW₁ => ⟨hf.1, hf.2, hp.2 (T.setVm vm₁) hT hW₁⟩) with ⟨v, vm₁, ⟨U', l2, c2, s2⟩, hW₁, X', ⟨g', mk, t, L, e1, e2, hq, h1, hL, h2, h3⟩, st⟩ | ⟨q, vm₁, ⟨U', l2, c2, s2⟩, hW₁, X', ⟨g', mk, t, L, E, ce, e1, e2, hq, hce, hcv, hcl, h1, hL, h2, h3⟩, st⟩
  · dsimp only [Pt.U, Pt.locs, Pt.cells, Pt.slots] at X' e1 e2 h1 h2 h3 st
    subst h1; subst h2; subst h3
    exact Or.inl ⟨v, (T.setVm vm₁).calling g' mk As.toArray, t, U', L, hT, X', hL, e1, e2, hq, st⟩
  · dsimp only [Pt.U, Pt.locs, Pt.cells, Pt.slots] at X' e1 e2 h1 h2 h3 st hcl
    subst h1; subst h2; subst h3
    exact Or.inr ⟨q, (T.setVm vm₁).calling g' mk As.toArray, t, U', L, E, ce, hT, X', hL, e1, e2, hq, hce, hcv, vx_cls hW₁ hcl, st⟩
end
end VXH
theorem vx_ofWH {l : Launch} {y : MethodName} {ws ws' : List Cond} {rm : Room} {Pc : Array Value → State → Prop} {Qc : Array Value → State → Outcome → State → Prop} {XC : String → State → State → Prop} {mc ms : Nat} {free : Addr → Prop} {cc : ByteArray} {maxL : Nat} {ret : Option FieldType} {hh : List (Nat × Nat × Nat × Nat)}
    (hy : plainName y.cls = true) (hw : ws = Cond.codeWith y cc maxL ret hh :: ws')
    (body : ∀ p e s m args below meth c s₁, BodyLoose p l y (headSpec ws rm) cc maxL ret e s m args below meth c s₁ → c.maxLocals = maxL → Pc args s →
      W p l e (headSpec ws rm).room s m args below meth c s.heap [] 0 0 (vx_MQ below Qc XC args s mc ms free) (entryFrame m args maxL)) : vx_Met l y ws rm Pc Qc XC mc ms free := by
  refine MetFree.of_bodyS (code := cc) (maxLocals := maxL) (ret := ret) hy ?_ ?_
  · intro args s m h hn
    obtain ⟨m9, meth, c, hn9, h1, h2, h3, h4, -, h5, h6, -⟩ := Cond.codeWith_spec (atoms_spec (ws := ws) h _ (by rw [hw]; exact List.mem_cons_self))
    cases hn.symm.trans hn9
    exact ⟨meth, c, h1, h2, h3, h4, h5, h6⟩
  · intro p e s m args below meth c s₁ B hml hP _
    have hh0 : s₁.heap = s.heap := by rw [B.state]; rfl
    obtain ⟨t, a1, o, b1, b2, b3⟩ := body p e s m args below meth c s₁ B hml hP s₁ hh0 (Stand.of_body B)
    exact ⟨t, o, a1, b1, b2, b3⟩
/-! ===== END ===== -/

/-! ===== BEGIN what the machine throws by itself, no traces kept ===== -/
section VXM
set_option maxHeartbeats 1000000 in
/-- the machine throws cls with the message text, no traces kept: from its note over the frame g to 'throwing' over the same frame (follows the proofs of Stand.vmThrowsMessage, Shelf/KitTracedVmS.lean, and Stand.throwsMessageColdBareV, StandMessageColdV.lean, without the step out of the frame) -/
theorem vx_vmAt {p : Program} {l : Launch} {e : Env} {R : Room} {s : State} {m₀ : MethodId} {args : Array Value} {below : List Frame} {meth : Method} {c : Code} {W : State} {locs : List Loc} {cells slots : Nat}
    (X : Stand p l e R s m₀ args below meth c W locs cells slots) (hexec : p.tables.exec = Jvm.exec) (htr : e.platform.stackTraces = false) {cls : String} {names : List String} {text : String}
    (hcls : Bundle.fit cls = true) (hnames : ∀ n ∈ names, Bundle.fit n = true) (hsoe : (cls == "java/lang/StackOverflowError") = false) (hoom : (cls == "java/lang/OutOfMemoryError") = false)
    (h : ∀ a ∈ Bundle.messageArmAtoms cls names, a.before args s = true)
    (hlocs : ∀ x ∈ locs, ∀ cell, s.heap[x.base]? = some cell → cell.vm.isStatics = false)
    (htext : (text == notModelled) = false) (hlimit : ¬ (stringBytes (stringToUtf16 text)).size > e.platform.arrayLengthLimit) (hheap : ¬ (stringBytes (stringToUtf16 text)).size * componentBytes .byte > e.platform.maxHeapBytes)
    {g : JFrame} (hg : g.method = m₀) (hsize : g.locals.size = c.maxLocals)
    (hRframes : names.length + 4 < R.frames) (hRlocals : 2 * g.monitorRoom + (g.stack.map fun v => v.category).sum + 10240 ≤ R.locals) (hshort : 13 * names.length + 55 ≤ 10240)
    (hRcells : cells + 3 ≤ R.cells) (hRslots : slots + ((stringBytes (stringToUtf16 text)).size + 4 + 6) ≤ R.slots) (hlocks : meth.locks = false) :
    ∃ (S : State) (q : Addr) (ce : Cell), (∀ target, Steps p.tables e below ((S.setTop g).pushFrame (.throwing q)) target → Steps p.tables e below ((W.setTop g).pushFrame (.throwNew cls (some text) none)) target) ∧
      Stand p l e R s m₀ args below meth c S locs (cells + 3) (slots + ((stringBytes (stringToUtf16 text)).size + 4 + 6)) ∧ S.heap[q]? = some ce ∧ s.vm.findClass cls = some ce.cls ∧ ce.vm = .none := by
  have howns : e.platform.frameOwnsMonitors = true := by rw [X.admits.platform]
  have hfin : e.platform.finalization = false := by rw [X.admits.platform]
  have hpl : e.platform.magicAccessors = ({} : Platform).magicAccessors := by rw [X.admits.platform]
  have a : ∀ x, x ∈ Bundle.messageArmAtoms cls names → x.holds args s none s [] = true := fun x hx => h x hx
  obtain ⟨T, Z0, L, -, Y⟩ := ThrowableC.of_atoms (args := args) howns hfin hpl (fun x hx => h x (by simp [Bundle.messageArmAtoms, hx]))
  obtain ⟨Z, M, LZ, LM, hnZ⟩ := Init0T.ofS_atoms (args := args) hpl L Y (fun x hx => h x (by simp [Bundle.messageArmAtoms, hx]))
  obtain ⟨P1, Ps, hlen, L1, hL, hP1m, hlink1, hlink⟩ := Bundle.chainS (args := args) hpl hnZ names cls hcls hnames (fun x hx => h x (by simp [Bundle.messageArmAtoms, hx]))
  obtain ⟨Zs, LZs, hn4, hfitv, hfitc⟩ := StringT.of_atoms (args := args) (fun x hx => h x (by simp [Bundle.messageArmAtoms, hx]))
  have hfound : s.vm.findClass cls = some P1.m.cls := findClass_of_methodNamed hP1m
  obtain ⟨c1, kX, hc1, hk, hord, -, -, hn6⟩ := Cond.instantiable_spec (a (.instantiable cls 6) (by simp [Bundle.messageArmAtoms]))
  cases Option.some.inj (hc1.symm.trans hfound)
  have hinit := Cond.initialized_spec hfound hk (a (.initialized cls) (by simp [Bundle.messageArmAtoms]))
  have hctor : kX.findMethod "<init>" "(Ljava/lang/String;)V" = some P1.m.idx := findMethod_of_methodNamed hP1m hk
  have hsel0 : selectMethod e.platform s.vm P1.m.cls T.fill0 = .method T.fill0 := by
    obtain ⟨c2, r2, m2, q1, q2, q3, q4, -⟩ := Cond.selects_spec (a (.selects cls Bundle.tFill0 Bundle.tFill0) (by simp [Bundle.messageArmAtoms]))
    cases Option.some.inj (q1.symm.trans hfound)
    cases Option.some.inj (q2.symm.trans (State.methodFound?_of_named Y.fill0 (by decide)))
    cases Option.some.inj (q3.symm.trans Y.fill0)
    rw [Launch.admits_selectMethod X.admits]; exact q4
  have hselF : selectMethod e.platform s.vm P1.m.cls T.fill = .method T.fill := by
    obtain ⟨c2, r2, m2, q1, q2, q3, q4, -⟩ := Cond.selects_spec (a (.selects cls Bundle.tFill Bundle.tFill) (by simp [Bundle.messageArmAtoms]))
    cases Option.some.inj (q1.symm.trans hfound)
    cases Option.some.inj (q2.symm.trans (State.methodFound?_of_named Y.fill (by decide)))
    cases Option.some.inj (q3.symm.trans Y.fill)
    rw [Launch.admits_selectMethod X.admits]; exact q4
  obtain ⟨cellS0, hcS0, hiss⟩ := Y.statics
  obtain ⟨u0, hu0⟩ := Cond.staticRefV Y.unassigned L.unassignedStatic L.statics hcS0 hiss (a (.isRef (.static Bundle.tN "UNASSIGNED_STACK" Bundle.steD)) (by simp [Bundle.messageArmAtoms]))
  obtain ⟨sen, hsen⟩ := Cond.staticRefV Y.sentinel L.sentinelStatic L.statics hcS0 hiss (a (.isRef (.static Bundle.tN "SUPPRESSED_SENTINEL" Bundle.listD)) (by simp [Bundle.messageArmAtoms]))
  obtain ⟨ci198, i198, fB, hk198, hg198, ha198, hsB, -, hnB, htB, hffB⟩ := Cond.ownField (t := .object "java/lang/Object") Y.found L.cls (by decide +kernel) (a (.fieldLink Bundle.tN 198 Bundle.tN "backtrace" "Ljava/lang/Object;") (by simp [Bundle.messageArmAtoms])) (a (.lays Bundle.tN Bundle.tN "backtrace" "Ljava/lang/Object;") (by simp [Bundle.messageArmAtoms])) e.platform hpl
  obtain ⟨cellS, hcS', heS, -, hkeep⟩ := X.same.2.2.2.2.2 T.aS cellS0 hcS0
  have hcellS : W.heap[T.aS]? = some cellS := hcS'
  have hout' : ∀ i, (⟨T.aS, i⟩ : Loc) ∉ locs := fun i hmem => by
    have := hlocs _ hmem cellS0 hcS0
    rw [hiss] at this; cases this
  have hknownS : cellS.vm ≠ .unknown := by
    rw [heS]; intro hu
    rw [show cellS0.vm = .unknown from hu] at hiss
    cases hiss
  have hvU : cellS.slots[T.fUnassigned.slot]? = some u0.v := by rw [hkeep _ (hout' _)]; exact hu0
  have hvSen : cellS.slots[T.fSentinel.slot]? = some sen.v := by rw [hkeep _ (hout' _)]; exact hsen
  obtain ⟨iM, hffM⟩ := Y.msg
  obtain ⟨tyC, dC, hdC, hdnC⟩ := Cond.laysAt hfound hk Y.cause (a (.lays cls Bundle.tN "cause" "Ljava/lang/Throwable;") (by simp [Bundle.messageArmAtoms]))
  obtain ⟨tyS, dS, hdS, hdnS⟩ := Cond.laysAt hfound hk Y.stack (a (.lays cls Bundle.tN "stackTrace" Bundle.steD) (by simp [Bundle.messageArmAtoms]))
  obtain ⟨tyP, dP, hdP, hdnP⟩ := Cond.laysAt hfound hk Y.supp (a (.lays cls Bundle.tN "suppressedExceptions" Bundle.listD) (by simp [Bundle.messageArmAtoms]))
  obtain ⟨tyM, dM, hdM, hdnM⟩ := Cond.laysAt hfound hk hffM (a (.lays cls Bundle.tN "detailMessage" "Ljava/lang/String;") (by simp [Bundle.messageArmAtoms]))
  obtain ⟨tyB, dB, hdB, hdnB⟩ := Cond.laysAt hfound hk hffB (a (.lays cls Bundle.tN "backtrace" "Ljava/lang/Object;") (by simp [Bundle.messageArmAtoms]))
  have bC := Cond.laysApart hdB hdC hdnB hdnC (by rw [hnB, Y.causeName]; decide)
  have bS := Cond.laysApart hdB hdS hdnB hdnS (by rw [hnB, Y.stackName]; decide)
  have bP := Cond.laysApart hdB hdP hdnB hdnP (by rw [hnB, Y.suppName]; decide)
  have hbk : ((preparedCellV T.toThrowableT (freshCell P1.m.cls kX) (W.heap.size + 2) u0 sen).withEntry W.cur).slots[fB.slot]? = some .null := by
    have := fresh_default (c := P1.m.cls) tyB
    rw [htB] at this
    simpa [preparedCellV, Cell.setSlot, Cell.withEntry, Array.getElem?_setIfInBounds, bC, bS, bP, bC.symm, bS.symm, bP.symm, defaultValue] using this
  have tkC := Takes.of_laid (v := .ref (W.heap.size + 2)) hk hord tyC (by rw [Y.causeType]; rfl)
  have tkS := Takes.of_laid (v := u0.v) hk hord tyS (by rw [Y.stackType]; exact fits_refV_array _ u0)
  have tkP := Takes.of_laid (v := sen.v) hk hord tyP (by rw [Y.suppType]; exact fits_refV_object _ sen)
  have tkM := Takes.of_laid (v := .ref (W.heap.size + 1)) hk hord tyM (by rw [Y.msgType]; rfl)
  have hskip : SkipFacts T e.platform s (fun u => u) u0 ((preparedCellV T.toThrowableT (freshCell P1.m.cls kX) (W.heap.size + 2) u0 sen).withEntry W.cur) := ⟨{ ci198 := ci198, i198 := i198, fBack := fB }, ⟨hk198, hg198, ha198, hsB⟩, hbk, fun _ _ => rfl⟩
  have h0 : At W g.method c below := by rw [hg]; exact X.here
  obtain ⟨hbeyond, hfreeW⟩ := X.vmMayThrow hsize (.throwNew cls (some text) none) (fun f hf => by cases hf) rfl hRlocals
  have hfr' : W.frames.length + Ps.length + 4 < (e.platform.stackLimits W.me).1 := by have := X.framesAbove hRframes; omega
  have hwd' : (stackUse (.java g :: W.frames.tail)).2 + 13 * Ps.length + 55 ≤ (e.platform.stackLimits W.me).2 := by have := X.stackAbove hsize (K := 13 * Ps.length + 55) (by omega); omega
  have hslots : W.slotsUsed + (stringBytes (stringToUtf16 text)).size + Zs.kS.instanceTypes.size + kX.instanceTypes.size ≤ e.platform.maxSlots := by
    have := X.slotsAbove hRslots
    rw [hn4, hn6]
    omega
  obtain ⟨vm', hW', st⟩ := Steps.vmThrowsMessageColdByV p (s₀ := s) (S := W) (g := g) h0 hexec T L Z LZ M LM X.warmed (t := W.cur) rfl Zs LZs P1 L1 Ps hL hlink1 hlink hsoe hoom hfound hk hinit hord hctor
    (Launch.admits_hotImplicitExceptions X.admits) hbeyond hfreeW htext hlimit hheap (X.cellsAbove hRcells) hslots (hfitv _) (hfitc _)
    (Nn := fun u => u) heapOnly_id (fun _ _ => rfl) (fun _ => rfl) (fun u x y => setCell_twice _ _ _ _) (fun _ => Nat.le_refl _) (cN := ((preparedCellV T.toThrowableT (freshCell P1.m.cls kX) (W.heap.size + 2) u0 sen).withEntry W.cur))
    hsel0 hcellS hknownS hvU tkS (fun _ hu => hu) (fun _ hu => hu) rfl rfl rfl (by simp [preparedCellV, Cell.setSlot, Cell.withEntry]) hskip (fun _ _ hA hW _ hroom _ hrest => L.nativeOff p htr hA hW hroom hrest) hselF hvSen tkC tkP tkM Y.objLocals rfl hfr' hwd'
  rw [plainBareV_eq T.toThrowableT (W.heap.size + 2) u0 sen (.ref (W.heap.size + 1)) W.cur rfl rfl] at st
  obtain ⟨-, -, w3, w4, -, -, -⟩ := withThrown_facts e.platform W Zs text P1.m.cls kX
  have X3 := ((X.pushed (bytesOf Zs.cB (stringToUtf16 text))).pushed (stringAt Zs.cS Zs.kS Zs.fv Zs.fc (stringToUtf16 text) W.heap.size)).pushed (freshCell P1.m.cls kX)
  rw [← withString_eq] at X3
  have X4 := X3.noted hW'
  have ha : (W.heap.size + 2) < ((withThrown W Zs text P1.m.cls kX).setVm vm').heap.size := by show _ < (withThrown W Zs text P1.m.cls kX).heap.size; rw [w3]; omega
  have hcell : ((withThrown W Zs text P1.m.cls kX).setVm vm').heap[(W.heap.size + 2)]? = some (freshCell P1.m.cls kX) := w4
  have X5 := ((((X4.stored hcell T.fCause.slot (.ref (W.heap.size + 2))).storedAgain ha T.fStack.slot u0.v).storedAgain ha T.fSupp.slot sen.v).storedAgain ha T.fStack.slot u0.v).storedAgain ha T.fMsg.slot (.ref (W.heap.size + 1))
  obtain ⟨g₁, hfrM⟩ := X5.frames_eq
  have hU : ((((withThrown W Zs text P1.m.cls kX).setVm vm').setCell (W.heap.size + 2) (plainBareV T.toThrowableT (freshCell P1.m.cls kX) (W.heap.size + 2) u0 sen (.ref (W.heap.size + 1)))).setTop g).pushFrame (.throwing (W.heap.size + 2)) = (((withThrown W Zs text P1.m.cls kX).setVm vm').setCell (W.heap.size + 2) (plainBareV T.toThrowableT (freshCell P1.m.cls kX) (W.heap.size + 2) u0 sen (.ref (W.heap.size + 1)))).setFrames (.throwing (W.heap.size + 2) :: .java g :: below) := by
    rw [State.pushFrame, State.frames_setTop _ hfrM, State.setTop_of_frames _ hfrM, State.setFrames_setFrames]
  have b1 : (bytesOf Zs.cB (stringToUtf16 text)).slots.size = (stringBytes (stringToUtf16 text)).size := by
    rw [(Cell.writeAll_facts _ _).2.2]; simp [bytes0]
  have b2 : (stringAt Zs.cS Zs.kS Zs.fv Zs.fc (stringToUtf16 text) W.heap.size).slots.size = 4 := by simp [string0, Cell.setSlot, hn4]
  have b3 : (freshCell P1.m.cls kX).slots.size = 6 := by simp [hn6]
  rw [b1, b2, b3] at X5
  have e9 : slots + (stringBytes (stringToUtf16 text)).size + 4 + 6 = slots + ((stringBytes (stringToUtf16 text)).size + 4 + 6) := by omega
  rw [e9] at X5
  simp only [List.append_assoc, List.cons_append, List.nil_append] at X5
  refine ⟨((withThrown W Zs text P1.m.cls kX).setVm vm').setCell (W.heap.size + 2) (plainBareV T.toThrowableT (freshCell P1.m.cls kX) (W.heap.size + 2) u0 sen (.ref (W.heap.size + 1))), W.heap.size + 2, _, fun target ht => st _ (by rw [X.tail, ← hU]; exact ht),
    X5.forget (fun y hy => ?_), heapAt_setCell_self _ ha, hfound, rfl⟩
  simp only [List.mem_cons, List.not_mem_nil, or_false] at hy
  have hge : s.heap.size ≤ W.heap.size := X.same.2.1
  rcases hy with rfl | rfl | rfl | rfl | rfl <;> exact Nat.le_trans hge (Nat.le_add_right _ 2)
set_option maxHeartbeats 1000000 in
/-- the machine throws NullPointerException, no traces kept: from its note over the frame g to 'throwing' over the same frame (follows the proof of Stand.vmThrowsNpe, Shelf42/KT2.lean; throwsNpeColdBareVAt, Shelf42/NT91.lean, called) -/
theorem vx_npeAt {p : Program} {l : Launch} {e : Env} {R : Room} {s : State} {m₀ : MethodId} {args : Array Value} {below : List Frame} {meth : Method} {c : Code} {W : State} {locs : List Loc} {cells slots : Nat}
    (X : Stand p l e R s m₀ args below meth c W locs cells slots) (hexec : p.tables.exec = Jvm.exec) (htr : e.platform.stackTraces = false) {n : Nat}
    (h : ∀ a ∈ Bundle.npeArmAtoms n, a.before args s = true)
    (hlocs : ∀ x ∈ locs, ∀ cell, s.heap[x.base]? = some cell → cell.vm.isStatics = false)
    {g : JFrame} (hg : g.method = m₀) (hsize : g.locals.size = c.maxLocals)
    (hRframes : 7 < R.frames) (hRlocals : 2 * g.monitorRoom + (g.stack.map fun v => v.category).sum + 10240 ≤ R.locals)
    (hRcells : cells + 1 ≤ R.cells) (hRslots : slots + n ≤ R.slots) (hlocks : meth.locks = false) :
    ∃ (S : State) (q : Addr) (ce : Cell), (∀ target, Steps p.tables e below ((S.setTop g).pushFrame (.throwing q)) target → Steps p.tables e below ((W.setTop g).pushFrame (.throwNew "java/lang/NullPointerException" none none)) target) ∧
      Stand p l e R s m₀ args below meth c S locs (cells + 1) (slots + n) ∧ S.heap[q]? = some ce ∧ s.vm.findClass "java/lang/NullPointerException" = some ce.cls ∧ ce.vm = .none := by
  have howns : e.platform.frameOwnsMonitors = true := by rw [X.admits.platform]
  have hfin : e.platform.finalization = false := by rw [X.admits.platform]
  have hpl : e.platform.magicAccessors = ({} : Platform).magicAccessors := by rw [X.admits.platform]
  have hpl2 : e.platform.arrayCloneIsPublic = true := by rw [X.admits.platform]
  have a' : ∀ x, x ∈ Bundle.npeArmAtoms n → x.holds args s none s [] = true := fun x hx => h x hx
  obtain ⟨T, Z, L, LZ, Y⟩ := ThrowableC.of_atoms (args := args) howns hfin hpl (fun x hx => h x (by simp [Bundle.npeArmAtoms, hx]))
  obtain ⟨N, LN, hcN, hnNF, hordN, hffS⟩ := NpeC.of_atoms (args := args) hpl hpl2 L Y (fun x hx => h x (by simp [Bundle.npeArmAtoms, hx]))
  obtain ⟨P1, L1, hP1m, hP1s⟩ := PassC.of_atoms (args := args) (s := s) hpl (X := Bundle.nN) (Y := Bundle.rN) (by decide) (by decide) LibCode.NullPointerException.Init0.at_0 LibCode.NullPointerException.Init0.at_1 LibCode.NullPointerException.Init0.at_4 (fun x hx => h x (by simp [Bundle.npeArmAtoms, hx]))
  obtain ⟨PR, LR, hPRm, hPRs⟩ := PassC.of_atoms (args := args) (s := s) hpl (X := Bundle.rN) (Y := Bundle.eN) (by decide) (by decide) LibCode.RuntimeException.Init0.at_0 LibCode.RuntimeException.Init0.at_1 LibCode.RuntimeException.Init0.at_4 (fun x hx => h x (by simp [Bundle.npeArmAtoms, hx]))
  obtain ⟨PE, LEx, hPEm, hPEs⟩ := PassC.of_atoms (args := args) (s := s) hpl (X := Bundle.eN) (Y := Bundle.tN) (by decide) (by decide) LibCode.Exception.Init0.at_0 LibCode.Exception.Init0.at_1 LibCode.Exception.Init0.at_4 (fun x hx => h x (by simp [Bundle.npeArmAtoms, hx]))
  have hfound : s.vm.findClass Bundle.nN = some P1.m.cls := findClass_of_methodNamed hP1m
  have ecls : N.cN = P1.m.cls := Option.some.inj (hcN.symm.trans hfound)
  have hk : s.vm.classes[P1.m.cls]? = some N.kN := by rw [← ecls]; exact LN.cls
  have hinit := Cond.initialized_spec hfound hk (a' (.initialized Bundle.nN) (by simp [Bundle.npeArmAtoms]))
  have hctor : N.kN.findMethod "<init>" "()V" = some P1.m.idx := findMethod_of_methodNamed hP1m hk
  obtain ⟨c1, k1, hc1, hk1, -, -, -, hn⟩ := Cond.instantiable_spec (a' (.instantiable Bundle.nN n) (by simp [Bundle.npeArmAtoms]))
  cases Option.some.inj (hc1.symm.trans hfound)
  cases Option.some.inj (hk1.symm.trans hk)
  have hfsz : (freshCell P1.m.cls N.kN).slots.size = n := by simp [hn]
  have hlink1 : P1.sup = PR.m := Option.some.inj (hP1s.symm.trans hPRm)
  have hlinkR : PR.sup = PE.m := Option.some.inj (hPRs.symm.trans hPEm)
  have hlinkE : PE.sup = Z.m T.toThrowableT := Option.some.inj (hPEs.symm.trans Y.init0)
  have hLs : ∀ P, P ∈ [PR, PE] → P.Links0 e.platform s := fun P hP => by
    simp only [List.mem_cons, List.not_mem_nil, or_false] at hP
    rcases hP with rfl | rfl
    · exact LR
    · exact LEx
  have hsel0 : selectMethod e.platform s.vm P1.m.cls T.fill0 = .method T.fill0 := by
    obtain ⟨c2, r2, m2, q1, q2, q3, q4, -⟩ := Cond.selects_spec (a' (.selects Bundle.nN Bundle.tFill0 Bundle.tFill0) (by simp [Bundle.npeArmAtoms]))
    cases Option.some.inj (q1.symm.trans hfound)
    cases Option.some.inj (q2.symm.trans (State.methodFound?_of_named Y.fill0 (by decide)))
    cases Option.some.inj (q3.symm.trans Y.fill0)
    rw [Launch.admits_selectMethod X.admits]; exact q4
  have hselF : selectMethod e.platform s.vm P1.m.cls T.fill = .method N.fill := by
    obtain ⟨c2, r2, m2, q1, q2, q3, q4, -⟩ := Cond.selects_spec (a' (.selects Bundle.nN Bundle.tFill Bundle.nFill) (by simp [Bundle.npeArmAtoms]))
    cases Option.some.inj (q1.symm.trans hfound)
    cases Option.some.inj (q2.symm.trans (State.methodFound?_of_named Y.fill (by decide)))
    cases Option.some.inj (q3.symm.trans hnNF)
    rw [Launch.admits_selectMethod X.admits]; exact q4
  obtain ⟨cellS0, hcS0, hiss⟩ := Y.statics
  obtain ⟨u0, hu0⟩ := Cond.staticRefV Y.unassigned L.unassignedStatic L.statics hcS0 hiss (a' (.isRef (.static Bundle.tN "UNASSIGNED_STACK" Bundle.steD)) (by simp [Bundle.npeArmAtoms]))
  obtain ⟨sen, hsen⟩ := Cond.staticRefV Y.sentinel L.sentinelStatic L.statics hcS0 hiss (a' (.isRef (.static Bundle.tN "SUPPRESSED_SENTINEL" Bundle.listD)) (by simp [Bundle.npeArmAtoms]))
  obtain ⟨ci198, i198, fB, hk198, hg198, ha198, hsB, -, hnB, htB, hffB⟩ := Cond.ownField (t := .object "java/lang/Object") Y.found L.cls (by decide +kernel) (a' (.fieldLink Bundle.tN 198 Bundle.tN "backtrace" Bundle.objD) (by simp [Bundle.npeArmAtoms])) (a' (.lays Bundle.tN Bundle.tN "backtrace" Bundle.objD) (by simp [Bundle.npeArmAtoms])) e.platform hpl
  obtain ⟨cellS, hcS', heS, -, hkeep⟩ := X.same.2.2.2.2.2 T.aS cellS0 hcS0
  have hcellS : W.heap[T.aS]? = some cellS := hcS'
  have hout' : ∀ i, (⟨T.aS, i⟩ : Loc) ∉ locs := fun i hmem => by
    have := hlocs _ hmem cellS0 hcS0
    rw [hiss] at this; cases this
  have hknownS : cellS.vm ≠ .unknown := by
    rw [heS]; intro hu
    rw [show cellS0.vm = .unknown from hu] at hiss
    cases hiss
  have hvU : cellS.slots[T.fUnassigned.slot]? = some u0.v := by rw [hkeep _ (hout' _)]; exact hu0
  have hvSen : cellS.slots[T.fSentinel.slot]? = some sen.v := by rw [hkeep _ (hout' _)]; exact hsen
  obtain ⟨tyC, dC, hdC, hdnC⟩ := Cond.laysAt hfound hk Y.cause (a' (.lays Bundle.nN Bundle.tN "cause" "Ljava/lang/Throwable;") (by simp [Bundle.npeArmAtoms]))
  obtain ⟨tyS, dS, hdS, hdnS⟩ := Cond.laysAt hfound hk Y.stack (a' (.lays Bundle.nN Bundle.tN "stackTrace" Bundle.steD) (by simp [Bundle.npeArmAtoms]))
  obtain ⟨tyP, dP, hdP, hdnP⟩ := Cond.laysAt hfound hk Y.supp (a' (.lays Bundle.nN Bundle.tN "suppressedExceptions" Bundle.listD) (by simp [Bundle.npeArmAtoms]))
  obtain ⟨tyX, dX, hdX, hdnX⟩ := Cond.laysAt hfound hk hffS (a' (.lays Bundle.nN Bundle.nN "extendedMessageState" "I") (by simp [Bundle.npeArmAtoms, Bundle.npeAtoms]))
  obtain ⟨hnX, htX⟩ := State.fieldFound?_type hffS (t := .int) (by decide +kernel)
  have xC := Cond.laysApart hdC hdX hdnC hdnX (by rw [hnX, Y.causeName]; decide)
  have xS := Cond.laysApart hdS hdX hdnS hdnX (by rw [hnX, Y.stackName]; decide)
  have xP := Cond.laysApart hdP hdX hdnP hdnX (by rw [hnX, Y.suppName]; decide)
  have hv0 : (freshCell P1.m.cls N.kN).slots[N.fState.slot]? = some (.int 0) := by
    have := fresh_default (c := P1.m.cls) tyX
    rw [htX] at this; exact this
  obtain ⟨tyB, dB, hdB, hdnB⟩ := Cond.laysAt hfound hk hffB (a' (.lays Bundle.nN Bundle.tN "backtrace" Bundle.objD) (by simp [Bundle.npeArmAtoms]))
  have bC := Cond.laysApart hdB hdC hdnB hdnC (by rw [hnB, Y.causeName]; decide)
  have bS := Cond.laysApart hdB hdS hdnB hdnS (by rw [hnB, Y.stackName]; decide)
  have bP := Cond.laysApart hdB hdP hdnB hdnP (by rw [hnB, Y.suppName]; decide)
  have bX := Cond.laysApart hdB hdX hdnB hdnX (by rw [hnB, hnX]; decide)
  have hbk : ((npeCell N.toNpeT (preparedCellV T.toThrowableT (freshCell P1.m.cls N.kN) W.heap.size u0 sen) W.cur).withEntry W.cur).slots[fB.slot]? = some .null := by
    have := fresh_default (c := P1.m.cls) tyB
    rw [htB] at this
    simpa [npeCell, preparedCellV, Cell.setSlot, Cell.withEntry, Array.getElem?_setIfInBounds, bC, bS, bP, bX, bC.symm, bS.symm, bP.symm, bX.symm, defaultValue] using this
  have tkC := Takes.of_laid (v := .ref W.heap.size) hk hordN tyC (by rw [Y.causeType]; rfl)
  have tkS := Takes.of_laid (v := u0.v) hk hordN tyS (by rw [Y.stackType]; exact fits_refV_array _ u0)
  have tkP := Takes.of_laid (v := sen.v) hk hordN tyP (by rw [Y.suppType]; exact fits_refV_object _ sen)
  have tkX := Takes.of_laid (v := .int 1) hk hordN tyX (by rw [htX]; rfl)
  have hskip : SkipFacts T e.platform s (fun u => u) u0 ((npeCell N.toNpeT (preparedCellV T.toThrowableT (freshCell P1.m.cls N.kN) W.heap.size u0 sen) W.cur).withEntry W.cur) := ⟨{ ci198 := ci198, i198 := i198, fBack := fB }, ⟨hk198, hg198, ha198, hsB⟩, hbk, fun _ _ => rfl⟩
  obtain ⟨vm', X3, st, -⟩ := X.throwsNpeColdBareVAt hexec hg hsize T L Z LZ N LN P1 L1 [PR, PE] hLs hlink1 ⟨hlinkR, hlinkE, trivial⟩ hfound hk hinit hordN hctor hsel0 hselF hcellS hknownS hvU hvSen
    hv0 xC xS xP tkC tkS tkP tkX Y.objLocals hskip (fun _ _ hA hW _ hroom _ hrest => L.nativeOff p htr hA hW hroom hrest) (by simpa using hRframes) hRlocals (by simp) hRcells (by rw [hn]; exact hRslots)
  have hlt : W.heap.size < ((W.pushCell (freshCell P1.m.cls N.kN)).setVm vm').heap.size := by
    show W.heap.size < (W.pushCell (freshCell P1.m.cls N.kN)).heap.size
    rw [State.heap_size_pushCell]; omega
  rw [hfsz] at X3
  obtain ⟨g₁, hfrM⟩ := X3.frames_eq
  have hU : ((((W.pushCell (freshCell P1.m.cls N.kN)).setVm vm').setCell W.heap.size (npeBareV T.toThrowableT N.toNpeT (freshCell P1.m.cls N.kN) W.heap.size u0 sen)).setTop g).pushFrame (.throwing W.heap.size) = (((W.pushCell (freshCell P1.m.cls N.kN)).setVm vm').setCell W.heap.size (npeBareV T.toThrowableT N.toNpeT (freshCell P1.m.cls N.kN) W.heap.size u0 sen)).setFrames (.throwing W.heap.size :: .java g :: below) := by
    rw [State.pushFrame, State.frames_setTop _ hfrM, State.setTop_of_frames _ hfrM, State.setFrames_setFrames]
  refine ⟨_, W.heap.size, _, fun target ht => st.trans (by rw [← hU]; exact ht), X3.forget (fun y hy => ?_), heapAt_setCell_self _ hlt, hfound, rfl⟩
  simp only [List.mem_cons, List.not_mem_nil, or_false] at hy
  have hge : s.heap.size ≤ W.heap.size := X.same.2.1
  rcases hy with rfl | rfl | rfl | rfl | rfl <;> exact hge
/-- the words of a machine's NullPointerException, but the four that speak of the heap -/
def vx_atN (n : Nat) : List Cond := (Bundle.npeArmAtoms n).filter vx_no
/-- the words of a machine's throw with a message, but the four that speak of the heap -/
def vx_atM (X : String) (names : List String) : List Cond := (Bundle.messageArmAtoms X names).filter vx_no
section
variable {p : Program} {l : Launch} {e : Env} {R : Room} {s : State} {m : MethodId} {args : Array Value} {below : List Frame} {meth : Method} {c : Code} {H : Heap} {locs : List Loc} {cells slots : Nat}
/-- a frame seen from a rebased start, seen from the first start again -/
theorem vx_back9 {T S : State} {R' : Room} {k n : Nat} (X : Stand p l e R s m args below meth c T locs cells slots) (Y : Stand p l e R' ((T.setVm s.vm).setFrames (.invoking m args :: below)) m args below meth c T [] 0 0) (Z : Stand p l e R' ((T.setVm s.vm).setFrames (.invoking m args :: below)) m args below meth c S [] k n) :
    Stand p l e R s m args below meth c S locs (cells + k) (slots + n) := by
  have hW0 : s.WarmedH ((T.setVm s.vm).setFrames (.invoking m args :: below)).vm := State.WarmedH.refl s
  refine { admits := X.admits, cas := X.cas, clock := X.clock, frames := X.frames, room := X.room, hears := X.hears, method := X.method, code := X.code, here := Z.here, tail := Z.tail, warmed := State.WarmedH.trans hW0 Z.warmed, limits := Z.limits.trans (Y.limits.symm.trans X.limits), bytes := Z.bytes.trans (Y.bytes.symm.trans X.bytes), same := ?_ }
  obtain ⟨e1, e2⟩ := Z.same
  rw [State.setFrames_setFrames] at e1
  have h2 : (T.setVm s.vm).sameButNew (S.setVm s.vm) [] k n := ⟨e1, e2⟩
  have h3 := X.same.trans h2
  rw [List.append_nil] at h3
  exact h3
/-- from the machine's note that E is thrown here with this text -/
def vx_Note (p : Program) (l : Launch) (e : Env) (R : Room) (s : State) (m : MethodId) (args : Array Value) (below : List Frame) (meth : Method) (c : Code) (H : Heap) (locs : List Loc) (cells slots : Nat) (Q : State → Prop) (g : JFrame) (E text : String) : Prop :=
  ∀ T : State, T.heap = H → Stand p l e R s m args below meth c T locs cells slots → ∃ t, Steps p.tables e below ((T.setTop g).pushFrame (.throwNew E (some text) none)) t ∧ Q t
theorem vx_vm {pc : Nat} {ls : Array Slot} {rest : List Value} {Q : State → Prop} (hexec : p.tables.exec = Jvm.exec) (hl : l.stackTraces = false) {cls text : String} {names : List String} {nb : Nat} {A : Nat → Prop}
    (hcls : Bundle.fit cls = true) (hnames : ∀ n ∈ names, Bundle.fit n = true) (hsoe : (cls == "java/lang/StackOverflowError") = false) (hoom : (cls == "java/lang/OutOfMemoryError") = false)
    (hat : ∀ w ∈ vx_atM cls names, w.before args s = true) (hgood : ∀ w ∈ vx_atM cls names, vx_ot w = true)
    (hU : vx_Zq Bundle.tN "UNASSIGNED_STACK" Bundle.steD A s s.heap) (hN : vx_Zq Bundle.tN "SUPPRESSED_SENTINEL" Bundle.listD A s s.heap) (hS : va_S A s.heap H locs) (hsize : ls.size = c.maxLocals)
    (htext : (text == notModelled) = false) (hnb : (stringBytes (stringToUtf16 text)).size ≤ nb) (hnb1 : nb ≤ 1000)
    (hRframes : names.length + 4 < R.frames) (hRlocals : (rest.map fun v => v.category).sum + 10240 ≤ R.locals) (hshort : 13 * names.length + 55 ≤ 10240) (hRcells : cells + 3 ≤ R.cells) (hRslots : slots + (nb + 10) ≤ R.slots) (hlocks : meth.locks = false)
    (k : ∀ (H1 : Heap) (q9 : Addr) (ce : Cell), H.size ≤ H1.size → (∀ q : Nat, q < H.size → H1[q]? = H[q]?) → va_S A s.heap H1 locs → H1[q9]? = some ce → ce.vm = .none → s.vm.findClass cls = some ce.cls → vx_W p l e R s m args below meth c H1 locs (cells + 3) (slots + (nb + 10)) Q (F0 m pc ls rest) q9) :
    vx_Note p l e R s m args below meth c H locs cells slots Q (F0 m pc ls rest) cls text := by
  intro T hT X
  have htr : e.platform.stackTraces = false := (show e.platform.stackTraces = l.stackTraces by rw [X.admits.platform]).trans hl
  have Y := vx_rebase X (R' := { frames := R.frames, locals := R.locals, cells := 3, slots := nb + 10 }) (Nat.le_refl _) (Nat.le_refl _) hRcells hRslots
  have hhp : ((T.setVm s.vm).setFrames (.invoking m args :: below)).heap = H := hT
  have hW0 : s.WarmedH ((T.setVm s.vm).setFrames (.invoking m args :: below)).vm := State.WarmedH.refl s
  have hat' : ∀ w ∈ vx_atM cls names, w.before args ((T.setVm s.vm).setFrames (.invoking m args :: below)) = true := fun w hw => vx_ot_at hW0 rfl (hgood w hw) (hat w hw)
  have hU' : vx_Zq Bundle.tN "UNASSIGNED_STACK" Bundle.steD A ((T.setVm s.vm).setFrames (.invoking m args :: below)) ((T.setVm s.vm).setFrames (.invoking m args :: below)).heap := by rw [hhp]; exact vx_Zq.moved hW0.alike (hU.kept hS.2.1)
  have hN' : vx_Zq Bundle.tN "SUPPRESSED_SENTINEL" Bundle.listD A ((T.setVm s.vm).setFrames (.invoking m args :: below)) ((T.setVm s.vm).setFrames (.invoking m args :: below)).heap := by rw [hhp]; exact vx_Zq.moved hW0.alike (hN.kept hS.2.1)
  obtain ⟨S, q, ce, st, Z, hce, hcl', hv⟩ := vx_vmAt Y hexec htr (cls := cls) (names := names) (text := text) hcls hnames hsoe hoom (vx_own hat' (vx_isRefq hU'.1) (vx_isRefq hN'.1) hU'.2.word hN'.2.word) (fun x hx => nomatch hx) htext
    (by rw [Launch.admits_arrayLengthLimit X.admits]; omega) (by rw [Launch.admits_maxHeapBytes X.admits]; simp only [componentBytes]; omega)
    (g := F0 m pc ls rest) rfl hsize hRframes (by show 2 * 0 + (rest.map fun v => v.category).sum + 10240 ≤ R.locals; omega) hshort (by show 0 + 3 ≤ 3; omega) (by show 0 + (_ + 4 + 6) ≤ nb + 10; omega) hlocks
  obtain ⟨f1, f2⟩ := vx_frame Z.same
  have f1' : H.size ≤ S.heap.size := by rw [← hT]; exact f1
  have f2' : ∀ q : Nat, q < H.size → S.heap[q]? = H[q]? := fun q hq => by
    rw [← hT]
    exact f2 q (by rw [← hT] at hq; exact hq) (fun z hz => nomatch hz)
  have X5 := vx_back9 X Y Z
  have X6 : Stand p l e R s m args below meth c S locs (cells + 3) (slots + (nb + 10)) := { X5 with same := X5.same.mono (by omega) (by omega) }
  obtain ⟨t, a1, b1⟩ := k S.heap q ce f1' f2' ⟨Nat.le_trans hS.1 f1', fun q h1 h2 => (f2' q (Nat.lt_of_lt_of_le h1 hS.1)).trans (hS.2.1 q h1 h2), hS.2.2⟩ hce hv hcl' S rfl X6
  exact ⟨t, st t a1, b1⟩
/-- from the machine's note that NullPointerException is thrown here -/
def vx_NoteN (p : Program) (l : Launch) (e : Env) (R : Room) (s : State) (m : MethodId) (args : Array Value) (below : List Frame) (meth : Method) (c : Code) (H : Heap) (locs : List Loc) (cells slots : Nat) (Q : State → Prop) (g : JFrame) : Prop :=
  ∀ T : State, T.heap = H → Stand p l e R s m args below meth c T locs cells slots → ∃ t, Steps p.tables e below ((T.setTop g).pushFrame (.throwNew "java/lang/NullPointerException" none none)) t ∧ Q t
theorem vx_npe {pc : Nat} {ls : Array Slot} {rest : List Value} {Q : State → Prop} (hexec : p.tables.exec = Jvm.exec) (hl : l.stackTraces = false) {nb : Nat} {A : Nat → Prop}
    (hat : ∀ w ∈ vx_atN nb, w.before args s = true) (hgood : ∀ w ∈ vx_atN nb, vx_ot w = true)
    (hU : vx_Zq Bundle.tN "UNASSIGNED_STACK" Bundle.steD A s s.heap) (hN : vx_Zq Bundle.tN "SUPPRESSED_SENTINEL" Bundle.listD A s s.heap) (hS : va_S A s.heap H locs) (hsize : ls.size = c.maxLocals)
    (hRframes : 7 < R.frames) (hRlocals : (rest.map fun v => v.category).sum + 10240 ≤ R.locals) (hRcells : cells + 1 ≤ R.cells) (hRslots : slots + nb ≤ R.slots) (hlocks : meth.locks = false)
    (k : ∀ (H1 : Heap) (q9 : Addr) (ce : Cell), H.size ≤ H1.size → (∀ q : Nat, q < H.size → H1[q]? = H[q]?) → va_S A s.heap H1 locs → H1[q9]? = some ce → ce.vm = .none → s.vm.findClass "java/lang/NullPointerException" = some ce.cls → vx_W p l e R s m args below meth c H1 locs (cells + 1) (slots + nb) Q (F0 m pc ls rest) q9) :
    vx_NoteN p l e R s m args below meth c H locs cells slots Q (F0 m pc ls rest) := by
  intro T hT X
  have htr : e.platform.stackTraces = false := (show e.platform.stackTraces = l.stackTraces by rw [X.admits.platform]).trans hl
  have Y := vx_rebase X (R' := { frames := R.frames, locals := R.locals, cells := 1, slots := nb }) (Nat.le_refl _) (Nat.le_refl _) hRcells hRslots
  have hhp : ((T.setVm s.vm).setFrames (.invoking m args :: below)).heap = H := hT
  have hW0 : s.WarmedH ((T.setVm s.vm).setFrames (.invoking m args :: below)).vm := State.WarmedH.refl s
  have hat' : ∀ w ∈ vx_atN nb, w.before args ((T.setVm s.vm).setFrames (.invoking m args :: below)) = true := fun w hw => vx_ot_at hW0 rfl (hgood w hw) (hat w hw)
  have hU' : vx_Zq Bundle.tN "UNASSIGNED_STACK" Bundle.steD A ((T.setVm s.vm).setFrames (.invoking m args :: below)) ((T.setVm s.vm).setFrames (.invoking m args :: below)).heap := by rw [hhp]; exact vx_Zq.moved hW0.alike (hU.kept hS.2.1)
  have hN' : vx_Zq Bundle.tN "SUPPRESSED_SENTINEL" Bundle.listD A ((T.setVm s.vm).setFrames (.invoking m args :: below)) ((T.setVm s.vm).setFrames (.invoking m args :: below)).heap := by rw [hhp]; exact vx_Zq.moved hW0.alike (hN.kept hS.2.1)
  obtain ⟨S, q, ce, st, Z, hce, hcl', hv⟩ := vx_npeAt Y hexec htr (n := nb) (vx_own hat' (vx_isRefq hU'.1) (vx_isRefq hN'.1) hU'.2.word hN'.2.word) (fun x hx => nomatch hx)
    (g := F0 m pc ls rest) rfl hsize hRframes (by show 2 * 0 + (rest.map fun v => v.category).sum + 10240 ≤ R.locals; omega) (by show 0 + 1 ≤ 1; omega) (by show 0 + nb ≤ nb; omega) hlocks
  obtain ⟨f1, f2⟩ := vx_frame Z.same
  have f1' : H.size ≤ S.heap.size := by rw [← hT]; exact f1
  have f2' : ∀ q : Nat, q < H.size → S.heap[q]? = H[q]? := fun q hq => by
    rw [← hT]
    exact f2 q (by rw [← hT] at hq; exact hq) (fun z hz => nomatch hz)
  have X5 := vx_back9 X Y Z
  have X6 : Stand p l e R s m args below meth c S locs (cells + 1) (slots + nb) := { X5 with same := X5.same.mono (by omega) (by omega) }
  obtain ⟨t, a1, b1⟩ := k S.heap q ce f1' f2' ⟨Nat.le_trans hS.1 f1', fun q h1 h2 => (f2' q (Nat.lt_of_lt_of_le h1 hS.1)).trans (hS.2.1 q h1 h2), hS.2.2⟩ hce hv hcl' S rfl X6
  exact ⟨t, st t a1, b1⟩
variable {Q : State → Prop} {cc : ByteArray} {pc : Nat} {ls : Array Slot} {rest : List Value}
theorem vx_idivZ (hexec : p.tables.exec = Jvm.exec) (hb : c.code = cc) {a b : Int32} (h0 : b = 0) (d : decode cc pc = .ok (.idiv, 1)) (k : vx_Note p l e R s m args below meth c H locs cells slots Q (F0 m pc ls rest) "java/lang/ArithmeticException" "/ by zero") :
    W p l e R s m args below meth c H locs cells slots Q (F0 m pc ls (.int b :: .int a :: rest)) := by
  intro T hT X
  obtain ⟨t, st, q⟩ := k T hT X
  exact ⟨t, X.idivZero hexec (g := F0 m pc ls (.int b :: .int a :: rest)) rfl (a := a) (rest := rest) (by rw [h0]) (by rw [hb]; exact d) t st, q⟩
theorem vx_iremZ (hexec : p.tables.exec = Jvm.exec) (hb : c.code = cc) {a b : Int32} (h0 : b = 0) (d : decode cc pc = .ok (.irem, 1)) (k : vx_Note p l e R s m args below meth c H locs cells slots Q (F0 m pc ls rest) "java/lang/ArithmeticException" "/ by zero") :
    W p l e R s m args below meth c H locs cells slots Q (F0 m pc ls (.int b :: .int a :: rest)) := by
  intro T hT X
  obtain ⟨t, st, q⟩ := k T hT X
  exact ⟨t, X.iremZero hexec (g := F0 m pc ls (.int b :: .int a :: rest)) rfl (a := a) (rest := rest) (by rw [h0]) (by rw [hb]; exact d) t st, q⟩
theorem vx_ldivZ (hexec : p.tables.exec = Jvm.exec) (hb : c.code = cc) {a b : Int64} (h0 : b = 0) (d : decode cc pc = .ok (.ldiv, 1)) (k : vx_Note p l e R s m args below meth c H locs cells slots Q (F0 m pc ls rest) "java/lang/ArithmeticException" "/ by zero") :
    W p l e R s m args below meth c H locs cells slots Q (F0 m pc ls (.long b :: .long a :: rest)) := by
  intro T hT X
  obtain ⟨t, st, q⟩ := k T hT X
  exact ⟨t, X.ldivZero hexec (g := F0 m pc ls (.long b :: .long a :: rest)) rfl (a := a) (rest := rest) (by rw [h0]) (by rw [hb]; exact d) t st, q⟩
theorem vx_lremZ (hexec : p.tables.exec = Jvm.exec) (hb : c.code = cc) {a b : Int64} (h0 : b = 0) (d : decode cc pc = .ok (.lrem, 1)) (k : vx_Note p l e R s m args below meth c H locs cells slots Q (F0 m pc ls rest) "java/lang/ArithmeticException" "/ by zero") :
    W p l e R s m args below meth c H locs cells slots Q (F0 m pc ls (.long b :: .long a :: rest)) := by
  intro T hT X
  obtain ⟨t, st, q⟩ := k T hT X
  exact ⟨t, X.lremZero hexec (g := F0 m pc ls (.long b :: .long a :: rest)) rfl (a := a) (rest := rest) (by rw [h0]) (by rw [hb]; exact d) t st, q⟩
theorem vx_ialdZ {D : va_G} {cl : List vw_C} {ws : va_W} {tys : List (ClassId × FieldType)} {a : Nat} (hexec : p.tables.exec = Jvm.exec) (hb : c.code = cc) (hK : va_K D cl tys s) (hP : va_P D cl ws H) (q0 t0 : Nat) {cA : ClassId} {n : Nat} {f : Nat → Int32} (ha : ws[q0]? = some (a, .inl (cA, n, .inl f))) (ht : tys[t0]? = some (cA, .int)) {i : Int32} (hout : ¬ vp_in i n) (hdg : decode cc pc = .ok (.iaload, 1))
    (k : ∀ tx : String, tx = (toString "Index " ++ toString i ++ toString " out of bounds for length " ++ toString n : String) → vx_Note p l e R s m args below meth c H locs cells slots Q (F0 m pc ls rest) "java/lang/ArrayIndexOutOfBoundsException" tx) : W p l e R s m args below meth c H locs cells slots Q (F0 m pc ls (.int i :: .ref a :: rest)) := by
  intro T hT X
  obtain ⟨t, st, q⟩ := k _ rfl T hT X
  refine ⟨t, ?_, q⟩
  have h1 := X.ialoadOut hexec (by rw [hT]; exact hP q0 _ ha) ((hK.2 t0 _ ht).1 n (fun j => .int (f j))) (j := i) (by show (i < 0 ∨ (arrV _ _ _).slots.size ≤ _); rw [arrV_size]; exact Classical.byContradiction hout) (g := F0 m pc ls (.int i :: .ref a :: rest)) rfl (rest := rest) rfl (by rw [hb]; exact hdg) t
  simp only [arrV_size] at h1
  exact h1 st
theorem vx_iastZ {D : va_G} {cl : List vw_C} {ws : va_W} {tys : List (ClassId × FieldType)} {a : Nat} (hexec : p.tables.exec = Jvm.exec) (hb : c.code = cc) (hK : va_K D cl tys s) (hP : va_P D cl ws H) (q0 t0 : Nat) {cA : ClassId} {n : Nat} {f : Nat → Int32} (ha : ws[q0]? = some (a, .inl (cA, n, .inl f))) (ht : tys[t0]? = some (cA, .int)) {i : Int32} {x : Int32} (hout : ¬ vp_in i n) (hdg : decode cc pc = .ok (.iastore, 1))
    (k : ∀ tx : String, tx = (toString "Index " ++ toString i ++ toString " out of bounds for length " ++ toString n : String) → vx_Note p l e R s m args below meth c H locs cells slots Q (F0 m pc ls rest) "java/lang/ArrayIndexOutOfBoundsException" tx) : W p l e R s m args below meth c H locs cells slots Q (F0 m pc ls (.int x :: .int i :: .ref a :: rest)) := by
  intro T hT X
  obtain ⟨t, st, q⟩ := k _ rfl T hT X
  refine ⟨t, ?_, q⟩
  have h1 := X.iastoreOut hexec (by rw [hT]; exact hP q0 _ ha) ((hK.2 t0 _ ht).1 n (fun j => .int (f j))) (j := i) (by show (i < 0 ∨ (arrV _ _ _).slots.size ≤ _); rw [arrV_size]; exact Classical.byContradiction hout) (g := F0 m pc ls (.int x :: .int i :: .ref a :: rest)) rfl (rest := rest) rfl (by rw [hb]; exact hdg) t
  simp only [arrV_size] at h1
  exact h1 st
theorem vx_baldZ {D : va_G} {cl : List vw_C} {ws : va_W} {tys : List (ClassId × FieldType)} {a : Nat} (hexec : p.tables.exec = Jvm.exec) (hb : c.code = cc) (hK : va_K D cl tys s) (hP : va_P D cl ws H) (q0 t0 : Nat) {cA : ClassId} {n : Nat} {f : Nat → Int32} (ha : ws[q0]? = some (a, .inl (cA, n, .inl f))) (ht : tys[t0]? = some (cA, .byte)) {i : Int32} (hout : ¬ vp_in i n) (hdg : decode cc pc = .ok (.baload, 1))
    (k : ∀ tx : String, tx = (toString "Index " ++ toString i ++ toString " out of bounds for length " ++ toString n : String) → vx_Note p l e R s m args below meth c H locs cells slots Q (F0 m pc ls rest) "java/lang/ArrayIndexOutOfBoundsException" tx) : W p l e R s m args below meth c H locs cells slots Q (F0 m pc ls (.int i :: .ref a :: rest)) := by
  intro T hT X
  obtain ⟨t, st, q⟩ := k _ rfl T hT X
  refine ⟨t, ?_, q⟩
  have h1 := X.baloadOut hexec (by rw [hT]; exact hP q0 _ ha) ((hK.2 t0 _ ht).1 n (fun j => .int (f j))) (j := i) (by show (i < 0 ∨ (arrV _ _ _).slots.size ≤ _); rw [arrV_size]; exact Classical.byContradiction hout) (g := F0 m pc ls (.int i :: .ref a :: rest)) rfl (rest := rest) rfl (by rw [hb]; exact hdg) t
  simp only [arrV_size] at h1
  exact h1 st
theorem vx_bastZ {D : va_G} {cl : List vw_C} {ws : va_W} {tys : List (ClassId × FieldType)} {a : Nat} (hexec : p.tables.exec = Jvm.exec) (hb : c.code = cc) (hK : va_K D cl tys s) (hP : va_P D cl ws H) (q0 t0 : Nat) {cA : ClassId} {n : Nat} {f : Nat → Int32} (ha : ws[q0]? = some (a, .inl (cA, n, .inl f))) (ht : tys[t0]? = some (cA, .byte)) {i : Int32} {x : Int32} (hout : ¬ vp_in i n) (hdg : decode cc pc = .ok (.bastore, 1))
    (k : ∀ tx : String, tx = (toString "Index " ++ toString i ++ toString " out of bounds for length " ++ toString n : String) → vx_Note p l e R s m args below meth c H locs cells slots Q (F0 m pc ls rest) "java/lang/ArrayIndexOutOfBoundsException" tx) : W p l e R s m args below meth c H locs cells slots Q (F0 m pc ls (.int x :: .int i :: .ref a :: rest)) := by
  intro T hT X
  obtain ⟨t, st, q⟩ := k _ rfl T hT X
  refine ⟨t, ?_, q⟩
  have h1 := X.bastoreOut hexec (by rw [hT]; exact hP q0 _ ha) ((hK.2 t0 _ ht).1 n (fun j => .int (f j))) (j := i) (by show (i < 0 ∨ (arrV _ _ _).slots.size ≤ _); rw [arrV_size]; exact Classical.byContradiction hout) (g := F0 m pc ls (.int x :: .int i :: .ref a :: rest)) rfl (rest := rest) rfl (by rw [hb]; exact hdg) t
  simp only [arrV_size] at h1
  exact h1 st
theorem vx_zaldZ {D : va_G} {cl : List vw_C} {ws : va_W} {tys : List (ClassId × FieldType)} {a : Nat} (hexec : p.tables.exec = Jvm.exec) (hb : c.code = cc) (hK : va_K D cl tys s) (hP : va_P D cl ws H) (q0 t0 : Nat) {cA : ClassId} {n : Nat} {f : Nat → Int32} (ha : ws[q0]? = some (a, .inl (cA, n, .inl f))) (ht : tys[t0]? = some (cA, .boolean)) {i : Int32} (hout : ¬ vp_in i n) (hdg : decode cc pc = .ok (.baload, 1))
    (k : ∀ tx : String, tx = (toString "Index " ++ toString i ++ toString " out of bounds for length " ++ toString n : String) → vx_Note p l e R s m args below meth c H locs cells slots Q (F0 m pc ls rest) "java/lang/ArrayIndexOutOfBoundsException" tx) : W p l e R s m args below meth c H locs cells slots Q (F0 m pc ls (.int i :: .ref a :: rest)) := by
  intro T hT X
  obtain ⟨t, st, q⟩ := k _ rfl T hT X
  refine ⟨t, ?_, q⟩
  have h1 := X.baloadOut hexec (by rw [hT]; exact hP q0 _ ha) ((hK.2 t0 _ ht).1 n (fun j => .int (f j))) (j := i) (by show (i < 0 ∨ (arrV _ _ _).slots.size ≤ _); rw [arrV_size]; exact Classical.byContradiction hout) (g := F0 m pc ls (.int i :: .ref a :: rest)) rfl (rest := rest) rfl (by rw [hb]; exact hdg) t
  simp only [arrV_size] at h1
  exact h1 st
theorem vx_zastZ {D : va_G} {cl : List vw_C} {ws : va_W} {tys : List (ClassId × FieldType)} {a : Nat} (hexec : p.tables.exec = Jvm.exec) (hb : c.code = cc) (hK : va_K D cl tys s) (hP : va_P D cl ws H) (q0 t0 : Nat) {cA : ClassId} {n : Nat} {f : Nat → Int32} (ha : ws[q0]? = some (a, .inl (cA, n, .inl f))) (ht : tys[t0]? = some (cA, .boolean)) {i : Int32} {x : Int32} (hout : ¬ vp_in i n) (hdg : decode cc pc = .ok (.bastore, 1))
    (k : ∀ tx : String, tx = (toString "Index " ++ toString i ++ toString " out of bounds for length " ++ toString n : String) → vx_Note p l e R s m args below meth c H locs cells slots Q (F0 m pc ls rest) "java/lang/ArrayIndexOutOfBoundsException" tx) : W p l e R s m args below meth c H locs cells slots Q (F0 m pc ls (.int x :: .int i :: .ref a :: rest)) := by
  intro T hT X
  obtain ⟨t, st, q⟩ := k _ rfl T hT X
  refine ⟨t, ?_, q⟩
  have h1 := X.bastoreOut hexec (by rw [hT]; exact hP q0 _ ha) ((hK.2 t0 _ ht).1 n (fun j => .int (f j))) (j := i) (by show (i < 0 ∨ (arrV _ _ _).slots.size ≤ _); rw [arrV_size]; exact Classical.byContradiction hout) (g := F0 m pc ls (.int x :: .int i :: .ref a :: rest)) rfl (rest := rest) rfl (by rw [hb]; exact hdg) t
  simp only [arrV_size] at h1
  exact h1 st
theorem vx_caldZ {D : va_G} {cl : List vw_C} {ws : va_W} {tys : List (ClassId × FieldType)} {a : Nat} (hexec : p.tables.exec = Jvm.exec) (hb : c.code = cc) (hK : va_K D cl tys s) (hP : va_P D cl ws H) (q0 t0 : Nat) {cA : ClassId} {n : Nat} {f : Nat → Int32} (ha : ws[q0]? = some (a, .inl (cA, n, .inl f))) (ht : tys[t0]? = some (cA, .char)) {i : Int32} (hout : ¬ vp_in i n) (hdg : decode cc pc = .ok (.caload, 1))
    (k : ∀ tx : String, tx = (toString "Index " ++ toString i ++ toString " out of bounds for length " ++ toString n : String) → vx_Note p l e R s m args below meth c H locs cells slots Q (F0 m pc ls rest) "java/lang/ArrayIndexOutOfBoundsException" tx) : W p l e R s m args below meth c H locs cells slots Q (F0 m pc ls (.int i :: .ref a :: rest)) := by
  intro T hT X
  obtain ⟨t, st, q⟩ := k _ rfl T hT X
  refine ⟨t, ?_, q⟩
  have h1 := X.caloadOut hexec (by rw [hT]; exact hP q0 _ ha) ((hK.2 t0 _ ht).1 n (fun j => .int (f j))) (j := i) (by show (i < 0 ∨ (arrV _ _ _).slots.size ≤ _); rw [arrV_size]; exact Classical.byContradiction hout) (g := F0 m pc ls (.int i :: .ref a :: rest)) rfl (rest := rest) rfl (by rw [hb]; exact hdg) t
  simp only [arrV_size] at h1
  exact h1 st
theorem vx_castZ {D : va_G} {cl : List vw_C} {ws : va_W} {tys : List (ClassId × FieldType)} {a : Nat} (hexec : p.tables.exec = Jvm.exec) (hb : c.code = cc) (hK : va_K D cl tys s) (hP : va_P D cl ws H) (q0 t0 : Nat) {cA : ClassId} {n : Nat} {f : Nat → Int32} (ha : ws[q0]? = some (a, .inl (cA, n, .inl f))) (ht : tys[t0]? = some (cA, .char)) {i : Int32} {x : Int32} (hout : ¬ vp_in i n) (hdg : decode cc pc = .ok (.castore, 1))
    (k : ∀ tx : String, tx = (toString "Index " ++ toString i ++ toString " out of bounds for length " ++ toString n : String) → vx_Note p l e R s m args below meth c H locs cells slots Q (F0 m pc ls rest) "java/lang/ArrayIndexOutOfBoundsException" tx) : W p l e R s m args below meth c H locs cells slots Q (F0 m pc ls (.int x :: .int i :: .ref a :: rest)) := by
  intro T hT X
  obtain ⟨t, st, q⟩ := k _ rfl T hT X
  refine ⟨t, ?_, q⟩
  have h1 := X.castoreOut hexec (by rw [hT]; exact hP q0 _ ha) ((hK.2 t0 _ ht).1 n (fun j => .int (f j))) (j := i) (by show (i < 0 ∨ (arrV _ _ _).slots.size ≤ _); rw [arrV_size]; exact Classical.byContradiction hout) (g := F0 m pc ls (.int x :: .int i :: .ref a :: rest)) rfl (rest := rest) rfl (by rw [hb]; exact hdg) t
  simp only [arrV_size] at h1
  exact h1 st
theorem vx_saldZ {D : va_G} {cl : List vw_C} {ws : va_W} {tys : List (ClassId × FieldType)} {a : Nat} (hexec : p.tables.exec = Jvm.exec) (hb : c.code = cc) (hK : va_K D cl tys s) (hP : va_P D cl ws H) (q0 t0 : Nat) {cA : ClassId} {n : Nat} {f : Nat → Int32} (ha : ws[q0]? = some (a, .inl (cA, n, .inl f))) (ht : tys[t0]? = some (cA, .short)) {i : Int32} (hout : ¬ vp_in i n) (hdg : decode cc pc = .ok (.saload, 1))
    (k : ∀ tx : String, tx = (toString "Index " ++ toString i ++ toString " out of bounds for length " ++ toString n : String) → vx_Note p l e R s m args below meth c H locs cells slots Q (F0 m pc ls rest) "java/lang/ArrayIndexOutOfBoundsException" tx) : W p l e R s m args below meth c H locs cells slots Q (F0 m pc ls (.int i :: .ref a :: rest)) := by
  intro T hT X
  obtain ⟨t, st, q⟩ := k _ rfl T hT X
  refine ⟨t, ?_, q⟩
  have h1 := X.saloadOut hexec (by rw [hT]; exact hP q0 _ ha) ((hK.2 t0 _ ht).1 n (fun j => .int (f j))) (j := i) (by show (i < 0 ∨ (arrV _ _ _).slots.size ≤ _); rw [arrV_size]; exact Classical.byContradiction hout) (g := F0 m pc ls (.int i :: .ref a :: rest)) rfl (rest := rest) rfl (by rw [hb]; exact hdg) t
  simp only [arrV_size] at h1
  exact h1 st
theorem vx_sastZ {D : va_G} {cl : List vw_C} {ws : va_W} {tys : List (ClassId × FieldType)} {a : Nat} (hexec : p.tables.exec = Jvm.exec) (hb : c.code = cc) (hK : va_K D cl tys s) (hP : va_P D cl ws H) (q0 t0 : Nat) {cA : ClassId} {n : Nat} {f : Nat → Int32} (ha : ws[q0]? = some (a, .inl (cA, n, .inl f))) (ht : tys[t0]? = some (cA, .short)) {i : Int32} {x : Int32} (hout : ¬ vp_in i n) (hdg : decode cc pc = .ok (.sastore, 1))
    (k : ∀ tx : String, tx = (toString "Index " ++ toString i ++ toString " out of bounds for length " ++ toString n : String) → vx_Note p l e R s m args below meth c H locs cells slots Q (F0 m pc ls rest) "java/lang/ArrayIndexOutOfBoundsException" tx) : W p l e R s m args below meth c H locs cells slots Q (F0 m pc ls (.int x :: .int i :: .ref a :: rest)) := by
  intro T hT X
  obtain ⟨t, st, q⟩ := k _ rfl T hT X
  refine ⟨t, ?_, q⟩
  have h1 := X.sastoreOut hexec (by rw [hT]; exact hP q0 _ ha) ((hK.2 t0 _ ht).1 n (fun j => .int (f j))) (j := i) (by show (i < 0 ∨ (arrV _ _ _).slots.size ≤ _); rw [arrV_size]; exact Classical.byContradiction hout) (g := F0 m pc ls (.int x :: .int i :: .ref a :: rest)) rfl (rest := rest) rfl (by rw [hb]; exact hdg) t
  simp only [arrV_size] at h1
  exact h1 st
theorem vx_laldZ {D : va_G} {cl : List vw_C} {ws : va_W} {tys : List (ClassId × FieldType)} {a : Nat} (hexec : p.tables.exec = Jvm.exec) (hb : c.code = cc) (hK : va_K D cl tys s) (hP : va_P D cl ws H) (q0 t0 : Nat) {cA : ClassId} {n : Nat} {f : Nat → Int64} (ha : ws[q0]? = some (a, .inl (cA, n, .inr (.inl f)))) (ht : tys[t0]? = some (cA, .long)) {i : Int32} (hout : ¬ vp_in i n) (hdg : decode cc pc = .ok (.laload, 1))
    (k : ∀ tx : String, tx = (toString "Index " ++ toString i ++ toString " out of bounds for length " ++ toString n : String) → vx_Note p l e R s m args below meth c H locs cells slots Q (F0 m pc ls rest) "java/lang/ArrayIndexOutOfBoundsException" tx) : W p l e R s m args below meth c H locs cells slots Q (F0 m pc ls (.int i :: .ref a :: rest)) := by
  intro T hT X
  obtain ⟨t, st, q⟩ := k _ rfl T hT X
  refine ⟨t, ?_, q⟩
  have h1 := X.laloadOut hexec (by rw [hT]; exact hP q0 _ ha) ((hK.2 t0 _ ht).1 n (fun j => .long (f j))) (j := i) (by show (i < 0 ∨ (arrV _ _ _).slots.size ≤ _); rw [arrV_size]; exact Classical.byContradiction hout) (g := F0 m pc ls (.int i :: .ref a :: rest)) rfl (rest := rest) rfl (by rw [hb]; exact hdg) t
  simp only [arrV_size] at h1
  exact h1 st
theorem vx_lastZ {D : va_G} {cl : List vw_C} {ws : va_W} {tys : List (ClassId × FieldType)} {a : Nat} (hexec : p.tables.exec = Jvm.exec) (hb : c.code = cc) (hK : va_K D cl tys s) (hP : va_P D cl ws H) (q0 t0 : Nat) {cA : ClassId} {n : Nat} {f : Nat → Int64} (ha : ws[q0]? = some (a, .inl (cA, n, .inr (.inl f)))) (ht : tys[t0]? = some (cA, .long)) {i : Int32} {x : Int64} (hout : ¬ vp_in i n) (hdg : decode cc pc = .ok (.lastore, 1))
    (k : ∀ tx : String, tx = (toString "Index " ++ toString i ++ toString " out of bounds for length " ++ toString n : String) → vx_Note p l e R s m args below meth c H locs cells slots Q (F0 m pc ls rest) "java/lang/ArrayIndexOutOfBoundsException" tx) : W p l e R s m args below meth c H locs cells slots Q (F0 m pc ls (.long x :: .int i :: .ref a :: rest)) := by
  intro T hT X
  obtain ⟨t, st, q⟩ := k _ rfl T hT X
  refine ⟨t, ?_, q⟩
  have h1 := X.lastoreOut hexec (by rw [hT]; exact hP q0 _ ha) ((hK.2 t0 _ ht).1 n (fun j => .long (f j))) (j := i) (by show (i < 0 ∨ (arrV _ _ _).slots.size ≤ _); rw [arrV_size]; exact Classical.byContradiction hout) (g := F0 m pc ls (.long x :: .int i :: .ref a :: rest)) rfl (rest := rest) rfl (by rw [hb]; exact hdg) t
  simp only [arrV_size] at h1
  exact h1 st
theorem vx_faldZ {D : va_G} {cl : List vw_C} {ws : va_W} {tys : List (ClassId × FieldType)} {a : Nat} (hexec : p.tables.exec = Jvm.exec) (hb : c.code = cc) (hK : va_K D cl tys s) (hP : va_P D cl ws H) (q0 t0 : Nat) {cA : ClassId} {n : Nat} {f : Nat → UInt32} (ha : ws[q0]? = some (a, .inl (cA, n, .inr (.inr (.inl f))))) (ht : tys[t0]? = some (cA, .float)) {i : Int32} (hout : ¬ vp_in i n) (hdg : decode cc pc = .ok (.faload, 1))
    (k : ∀ tx : String, tx = (toString "Index " ++ toString i ++ toString " out of bounds for length " ++ toString n : String) → vx_Note p l e R s m args below meth c H locs cells slots Q (F0 m pc ls rest) "java/lang/ArrayIndexOutOfBoundsException" tx) : W p l e R s m args below meth c H locs cells slots Q (F0 m pc ls (.int i :: .ref a :: rest)) := by
  intro T hT X
  obtain ⟨t, st, q⟩ := k _ rfl T hT X
  refine ⟨t, ?_, q⟩
  have h1 := X.faloadOut hexec (by rw [hT]; exact hP q0 _ ha) ((hK.2 t0 _ ht).1 n (fun j => .float (f j))) (j := i) (by show (i < 0 ∨ (arrV _ _ _).slots.size ≤ _); rw [arrV_size]; exact Classical.byContradiction hout) (g := F0 m pc ls (.int i :: .ref a :: rest)) rfl (rest := rest) rfl (by rw [hb]; exact hdg) t
  simp only [arrV_size] at h1
  exact h1 st
theorem vx_fastZ {D : va_G} {cl : List vw_C} {ws : va_W} {tys : List (ClassId × FieldType)} {a : Nat} (hexec : p.tables.exec = Jvm.exec) (hb : c.code = cc) (hK : va_K D cl tys s) (hP : va_P D cl ws H) (q0 t0 : Nat) {cA : ClassId} {n : Nat} {f : Nat → UInt32} (ha : ws[q0]? = some (a, .inl (cA, n, .inr (.inr (.inl f))))) (ht : tys[t0]? = some (cA, .float)) {i : Int32} {x : UInt32} (hout : ¬ vp_in i n) (hdg : decode cc pc = .ok (.fastore, 1))
    (k : ∀ tx : String, tx = (toString "Index " ++ toString i ++ toString " out of bounds for length " ++ toString n : String) → vx_Note p l e R s m args below meth c H locs cells slots Q (F0 m pc ls rest) "java/lang/ArrayIndexOutOfBoundsException" tx) : W p l e R s m args below meth c H locs cells slots Q (F0 m pc ls (.float x :: .int i :: .ref a :: rest)) := by
  intro T hT X
  obtain ⟨t, st, q⟩ := k _ rfl T hT X
  refine ⟨t, ?_, q⟩
  have h1 := X.fastoreOut hexec (by rw [hT]; exact hP q0 _ ha) ((hK.2 t0 _ ht).1 n (fun j => .float (f j))) (j := i) (by show (i < 0 ∨ (arrV _ _ _).slots.size ≤ _); rw [arrV_size]; exact Classical.byContradiction hout) (g := F0 m pc ls (.float x :: .int i :: .ref a :: rest)) rfl (rest := rest) rfl (by rw [hb]; exact hdg) t
  simp only [arrV_size] at h1
  exact h1 st
theorem vx_daldZ {D : va_G} {cl : List vw_C} {ws : va_W} {tys : List (ClassId × FieldType)} {a : Nat} (hexec : p.tables.exec = Jvm.exec) (hb : c.code = cc) (hK : va_K D cl tys s) (hP : va_P D cl ws H) (q0 t0 : Nat) {cA : ClassId} {n : Nat} {f : Nat → UInt64} (ha : ws[q0]? = some (a, .inl (cA, n, .inr (.inr (.inr (.inl f)))))) (ht : tys[t0]? = some (cA, .double)) {i : Int32} (hout : ¬ vp_in i n) (hdg : decode cc pc = .ok (.daload, 1))
    (k : ∀ tx : String, tx = (toString "Index " ++ toString i ++ toString " out of bounds for length " ++ toString n : String) → vx_Note p l e R s m args below meth c H locs cells slots Q (F0 m pc ls rest) "java/lang/ArrayIndexOutOfBoundsException" tx) : W p l e R s m args below meth c H locs cells slots Q (F0 m pc ls (.int i :: .ref a :: rest)) := by
  intro T hT X
  obtain ⟨t, st, q⟩ := k _ rfl T hT X
  refine ⟨t, ?_, q⟩
  have h1 := X.daloadOut hexec (by rw [hT]; exact hP q0 _ ha) ((hK.2 t0 _ ht).1 n (fun j => .double (f j))) (j := i) (by show (i < 0 ∨ (arrV _ _ _).slots.size ≤ _); rw [arrV_size]; exact Classical.byContradiction hout) (g := F0 m pc ls (.int i :: .ref a :: rest)) rfl (rest := rest) rfl (by rw [hb]; exact hdg) t
  simp only [arrV_size] at h1
  exact h1 st
theorem vx_dastZ {D : va_G} {cl : List vw_C} {ws : va_W} {tys : List (ClassId × FieldType)} {a : Nat} (hexec : p.tables.exec = Jvm.exec) (hb : c.code = cc) (hK : va_K D cl tys s) (hP : va_P D cl ws H) (q0 t0 : Nat) {cA : ClassId} {n : Nat} {f : Nat → UInt64} (ha : ws[q0]? = some (a, .inl (cA, n, .inr (.inr (.inr (.inl f)))))) (ht : tys[t0]? = some (cA, .double)) {i : Int32} {x : UInt64} (hout : ¬ vp_in i n) (hdg : decode cc pc = .ok (.dastore, 1))
    (k : ∀ tx : String, tx = (toString "Index " ++ toString i ++ toString " out of bounds for length " ++ toString n : String) → vx_Note p l e R s m args below meth c H locs cells slots Q (F0 m pc ls rest) "java/lang/ArrayIndexOutOfBoundsException" tx) : W p l e R s m args below meth c H locs cells slots Q (F0 m pc ls (.double x :: .int i :: .ref a :: rest)) := by
  intro T hT X
  obtain ⟨t, st, q⟩ := k _ rfl T hT X
  refine ⟨t, ?_, q⟩
  have h1 := X.dastoreOut hexec (by rw [hT]; exact hP q0 _ ha) ((hK.2 t0 _ ht).1 n (fun j => .double (f j))) (j := i) (by show (i < 0 ∨ (arrV _ _ _).slots.size ≤ _); rw [arrV_size]; exact Classical.byContradiction hout) (g := F0 m pc ls (.double x :: .int i :: .ref a :: rest)) rfl (rest := rest) rfl (by rw [hb]; exact hdg) t
  simp only [arrV_size] at h1
  exact h1 st
theorem vx_arraylengthN (hexec : p.tables.exec = Jvm.exec) (hb : c.code = cc) (hdg : decode cc pc = .ok (.arraylength, 1)) (k : vx_NoteN p l e R s m args below meth c H locs cells slots Q (F0 m pc ls rest)) : W p l e R s m args below meth c H locs cells slots Q (F0 m pc ls (.null :: rest)) := by
  intro T hT X
  obtain ⟨t, st, q⟩ := k T hT X
  exact ⟨t, X.arraylengthNull hexec (g := F0 m pc ls (.null :: rest)) rfl (rest := rest) rfl (by rw [hb]; exact hdg) t st, q⟩
theorem vx_ialoadN (hexec : p.tables.exec = Jvm.exec) (hb : c.code = cc) {i : Int32} (hdg : decode cc pc = .ok (.iaload, 1)) (k : vx_NoteN p l e R s m args below meth c H locs cells slots Q (F0 m pc ls rest)) : W p l e R s m args below meth c H locs cells slots Q (F0 m pc ls (.int i :: .null :: rest)) := by
  intro T hT X
  obtain ⟨t, st, q⟩ := k T hT X
  exact ⟨t, X.ialoadNull hexec (g := F0 m pc ls (.int i :: .null :: rest)) rfl (rest := rest) rfl (by rw [hb]; exact hdg) t st, q⟩
theorem vx_laloadN (hexec : p.tables.exec = Jvm.exec) (hb : c.code = cc) {i : Int32} (hdg : decode cc pc = .ok (.laload, 1)) (k : vx_NoteN p l e R s m args below meth c H locs cells slots Q (F0 m pc ls rest)) : W p l e R s m args below meth c H locs cells slots Q (F0 m pc ls (.int i :: .null :: rest)) := by
  intro T hT X
  obtain ⟨t, st, q⟩ := k T hT X
  exact ⟨t, X.laloadNull hexec (g := F0 m pc ls (.int i :: .null :: rest)) rfl (rest := rest) rfl (by rw [hb]; exact hdg) t st, q⟩
theorem vx_faloadN (hexec : p.tables.exec = Jvm.exec) (hb : c.code = cc) {i : Int32} (hdg : decode cc pc = .ok (.faload, 1)) (k : vx_NoteN p l e R s m args below meth c H locs cells slots Q (F0 m pc ls rest)) : W p l e R s m args below meth c H locs cells slots Q (F0 m pc ls (.int i :: .null :: rest)) := by
  intro T hT X
  obtain ⟨t, st, q⟩ := k T hT X
  exact ⟨t, X.faloadNull hexec (g := F0 m pc ls (.int i :: .null :: rest)) rfl (rest := rest) rfl (by rw [hb]; exact hdg) t st, q⟩
theorem vx_daloadN (hexec : p.tables.exec = Jvm.exec) (hb : c.code = cc) {i : Int32} (hdg : decode cc pc = .ok (.daload, 1)) (k : vx_NoteN p l e R s m args below meth c H locs cells slots Q (F0 m pc ls rest)) : W p l e R s m args below meth c H locs cells slots Q (F0 m pc ls (.int i :: .null :: rest)) := by
  intro T hT X
  obtain ⟨t, st, q⟩ := k T hT X
  exact ⟨t, X.daloadNull hexec (g := F0 m pc ls (.int i :: .null :: rest)) rfl (rest := rest) rfl (by rw [hb]; exact hdg) t st, q⟩
theorem vx_aaloadN (hexec : p.tables.exec = Jvm.exec) (hb : c.code = cc) {i : Int32} (hdg : decode cc pc = .ok (.aaload, 1)) (k : vx_NoteN p l e R s m args below meth c H locs cells slots Q (F0 m pc ls rest)) : W p l e R s m args below meth c H locs cells slots Q (F0 m pc ls (.int i :: .null :: rest)) := by
  intro T hT X
  obtain ⟨t, st, q⟩ := k T hT X
  exact ⟨t, X.aaloadNull hexec (g := F0 m pc ls (.int i :: .null :: rest)) rfl (rest := rest) rfl (by rw [hb]; exact hdg) t st, q⟩
theorem vx_baloadN (hexec : p.tables.exec = Jvm.exec) (hb : c.code = cc) {i : Int32} (hdg : decode cc pc = .ok (.baload, 1)) (k : vx_NoteN p l e R s m args below meth c H locs cells slots Q (F0 m pc ls rest)) : W p l e R s m args below meth c H locs cells slots Q (F0 m pc ls (.int i :: .null :: rest)) := by
  intro T hT X
  obtain ⟨t, st, q⟩ := k T hT X
  exact ⟨t, X.baloadNull hexec (g := F0 m pc ls (.int i :: .null :: rest)) rfl (rest := rest) rfl (by rw [hb]; exact hdg) t st, q⟩
theorem vx_caloadN (hexec : p.tables.exec = Jvm.exec) (hb : c.code = cc) {i : Int32} (hdg : decode cc pc = .ok (.caload, 1)) (k : vx_NoteN p l e R s m args below meth c H locs cells slots Q (F0 m pc ls rest)) : W p l e R s m args below meth c H locs cells slots Q (F0 m pc ls (.int i :: .null :: rest)) := by
  intro T hT X
  obtain ⟨t, st, q⟩ := k T hT X
  exact ⟨t, X.caloadNull hexec (g := F0 m pc ls (.int i :: .null :: rest)) rfl (rest := rest) rfl (by rw [hb]; exact hdg) t st, q⟩
theorem vx_saloadN (hexec : p.tables.exec = Jvm.exec) (hb : c.code = cc) {i : Int32} (hdg : decode cc pc = .ok (.saload, 1)) (k : vx_NoteN p l e R s m args below meth c H locs cells slots Q (F0 m pc ls rest)) : W p l e R s m args below meth c H locs cells slots Q (F0 m pc ls (.int i :: .null :: rest)) := by
  intro T hT X
  obtain ⟨t, st, q⟩ := k T hT X
  exact ⟨t, X.saloadNull hexec (g := F0 m pc ls (.int i :: .null :: rest)) rfl (rest := rest) rfl (by rw [hb]; exact hdg) t st, q⟩
theorem vx_iastoreN (hexec : p.tables.exec = Jvm.exec) (hb : c.code = cc) {x : Int32} {i : Int32} (hdg : decode cc pc = .ok (.iastore, 1)) (k : vx_NoteN p l e R s m args below meth c H locs cells slots Q (F0 m pc ls rest)) : W p l e R s m args below meth c H locs cells slots Q (F0 m pc ls (.int x :: .int i :: .null :: rest)) := by
  intro T hT X
  obtain ⟨t, st, q⟩ := k T hT X
  exact ⟨t, X.iastoreNull hexec (g := F0 m pc ls (.int x :: .int i :: .null :: rest)) rfl (rest := rest) rfl (by rw [hb]; exact hdg) t st, q⟩
theorem vx_lastoreN (hexec : p.tables.exec = Jvm.exec) (hb : c.code = cc) {x : Int64} {i : Int32} (hdg : decode cc pc = .ok (.lastore, 1)) (k : vx_NoteN p l e R s m args below meth c H locs cells slots Q (F0 m pc ls rest)) : W p l e R s m args below meth c H locs cells slots Q (F0 m pc ls (.long x :: .int i :: .null :: rest)) := by
  intro T hT X
  obtain ⟨t, st, q⟩ := k T hT X
  exact ⟨t, X.lastoreNull hexec (g := F0 m pc ls (.long x :: .int i :: .null :: rest)) rfl (rest := rest) rfl (by rw [hb]; exact hdg) t st, q⟩
theorem vx_fastoreN (hexec : p.tables.exec = Jvm.exec) (hb : c.code = cc) {x : UInt32} {i : Int32} (hdg : decode cc pc = .ok (.fastore, 1)) (k : vx_NoteN p l e R s m args below meth c H locs cells slots Q (F0 m pc ls rest)) : W p l e R s m args below meth c H locs cells slots Q (F0 m pc ls (.float x :: .int i :: .null :: rest)) := by
  intro T hT X
  obtain ⟨t, st, q⟩ := k T hT X
  exact ⟨t, X.fastoreNull hexec (g := F0 m pc ls (.float x :: .int i :: .null :: rest)) rfl (rest := rest) rfl (by rw [hb]; exact hdg) t st, q⟩
theorem vx_dastoreN (hexec : p.tables.exec = Jvm.exec) (hb : c.code = cc) {x : UInt64} {i : Int32} (hdg : decode cc pc = .ok (.dastore, 1)) (k : vx_NoteN p l e R s m args below meth c H locs cells slots Q (F0 m pc ls rest)) : W p l e R s m args below meth c H locs cells slots Q (F0 m pc ls (.double x :: .int i :: .null :: rest)) := by
  intro T hT X
  obtain ⟨t, st, q⟩ := k T hT X
  exact ⟨t, X.dastoreNull hexec (g := F0 m pc ls (.double x :: .int i :: .null :: rest)) rfl (rest := rest) rfl (by rw [hb]; exact hdg) t st, q⟩
theorem vx_bastoreN (hexec : p.tables.exec = Jvm.exec) (hb : c.code = cc) {x : Int32} {i : Int32} (hdg : decode cc pc = .ok (.bastore, 1)) (k : vx_NoteN p l e R s m args below meth c H locs cells slots Q (F0 m pc ls rest)) : W p l e R s m args below meth c H locs cells slots Q (F0 m pc ls (.int x :: .int i :: .null :: rest)) := by
  intro T hT X
  obtain ⟨t, st, q⟩ := k T hT X
  exact ⟨t, X.bastoreNull hexec (g := F0 m pc ls (.int x :: .int i :: .null :: rest)) rfl (rest := rest) rfl (by rw [hb]; exact hdg) t st, q⟩
theorem vx_castoreN (hexec : p.tables.exec = Jvm.exec) (hb : c.code = cc) {x : Int32} {i : Int32} (hdg : decode cc pc = .ok (.castore, 1)) (k : vx_NoteN p l e R s m args below meth c H locs cells slots Q (F0 m pc ls rest)) : W p l e R s m args below meth c H locs cells slots Q (F0 m pc ls (.int x :: .int i :: .null :: rest)) := by
  intro T hT X
  obtain ⟨t, st, q⟩ := k T hT X
  exact ⟨t, X.castoreNull hexec (g := F0 m pc ls (.int x :: .int i :: .null :: rest)) rfl (rest := rest) rfl (by rw [hb]; exact hdg) t st, q⟩
theorem vx_sastoreN (hexec : p.tables.exec = Jvm.exec) (hb : c.code = cc) {x : Int32} {i : Int32} (hdg : decode cc pc = .ok (.sastore, 1)) (k : vx_NoteN p l e R s m args below meth c H locs cells slots Q (F0 m pc ls rest)) : W p l e R s m args below meth c H locs cells slots Q (F0 m pc ls (.int x :: .int i :: .null :: rest)) := by
  intro T hT X
  obtain ⟨t, st, q⟩ := k T hT X
  exact ⟨t, X.sastoreNull hexec (g := F0 m pc ls (.int x :: .int i :: .null :: rest)) rfl (rest := rest) rfl (by rw [hb]; exact hdg) t st, q⟩
theorem vx_invokeN {own C : String} {index maxL : Nat} {y : MethodName} {bytes : ByteArray} {ret : Option FieldType} (hexec : p.tables.exec = Jvm.exec) (hb : c.code = cc) (hown : s.vm.findClass own = some m.cls) (hlink : (Cond.methodLink own index y).before args s = true) (hinst : (Cond.instanceMethod y).before args s = true) (hcode : (Cond.code y bytes maxL ret).before args s = true) (hsel : (Cond.selects C y y).before args s = true)
    (hx : y.cls ≠ "java/lang/invoke/MethodHandle" ∧ y.cls ≠ "java/lang/invoke/VarHandle") {As : List Value} (hlen : (parseMethodDescriptor y.desc).map (fun d => d.parameters.length) = some As.length) (hdg : decode cc pc = .ok (.invokevirtual index, 3))
    (k : vx_NoteN p l e R s m args below meth c H locs cells slots Q (F0 m pc ls rest)) {st0 : List Value} (hst : st0 = As.reverse ++ .null :: rest) : W p l e R s m args below meth c H locs cells slots Q (F0 m pc ls st0) := by
  intro T hT X
  obtain ⟨r0, r, hn, hrm, hstR, hsigR⟩ := va_Decl.of hinst hcode
  obtain ⟨c2, r2, m2, q1, q2, q3, q4, kP, hkP, hkPi⟩ := Cond.selects_spec hsel
  cases hn.symm.trans q3
  have hl9 : As.length = r.sig.parameters.length := by
    rw [hsigR] at hlen
    exact (Option.some.inj hlen).symm
  obtain ⟨vm', X1, st1⟩ := X.invokevirtualNull hexec hown hlink hn hrm hstR hkP hkPi hx (g := F0 m pc ls st0) rfl (argsL := As) (rest := rest) hl9 hst (by rw [hb]; exact hdg)
  obtain ⟨t, st, q⟩ := k (T.setVm vm') hT X1
  exact ⟨t, st1 t st, q⟩
theorem vx_newarrayZ {atype : ArrayType} (hexec : p.tables.exec = Jvm.exec) (hb : c.code = cc) {n : Int32} (h0 : n < 0) (hdg : decode cc pc = .ok (.newarray atype, 2)) (k : ∀ tx : String, tx = toString n → vx_Note p l e R s m args below meth c H locs cells slots Q (F0 m pc ls rest) "java/lang/NegativeArraySizeException" tx) : W p l e R s m args below meth c H locs cells slots Q (F0 m pc ls (.int n :: rest)) := by
  intro T hT X
  obtain ⟨t, st, q⟩ := k _ rfl T hT X
  exact ⟨t, X.newarrayNegative hexec (g := F0 m pc ls (.int n :: rest)) rfl h0 (rest := rest) rfl (by rw [hb]; exact hdg) t st, q⟩
end
end VXM
/-! ===== END ===== -/
end
section
/-! ===== BEGIN printed: names, fields, word lists, decode rows ===== -/
def RX0 : String := "Stepscript$Dancer"
def TX0 : u_T := fun k => match k with
  | 0 => ("Stepscript$Dancer", "columns", "LStepscript$Track;", true)
  | 1 => ("Stepscript$Dancer", "rows", "LStepscript$Track;", true)
  | 2 => ("Stepscript$Dancer", "points", "I", false)
  | _ => ("Stepscript$Dancer", "out", "Z", false)
def tyX0 : Nat → FieldType := fun k => match k with
  | 0 => .object "Stepscript$Track"
  | 1 => .object "Stepscript$Track"
  | 2 => .int
  | _ => .boolean
abbrev wsX00 : List Cond := u_ws RX0 TX0 4
theorem nmX0 : ∀ a, a < 4 → ∀ b, b < 4 → a ≠ b → (TX0 a).2.1 ≠ (TX0 b).2.1 := by decide +kernel
theorem tyX0_ok : ∀ k, k < 4 → parseFieldDescriptor (TX0 k).2.2.1 = some (tyX0 k) := by decide +kernel
abbrev cX0_init : ByteArray := prog_2_method_1_code
def yX0_init : MethodName := ⟨RX0, "<init>", "(II)V"⟩
abbrev cX0_track : ByteArray := prog_2_method_2_code
def yX0_track : MethodName := ⟨RX0, "track", "(Z)LStepscript$Track;"⟩
abbrev cX0_countsWithMoves : ByteArray := prog_2_method_3_code
def yX0_countsWithMoves : MethodName := ⟨RX0, "countsWithMoves", "()I"⟩
abbrev cX0_isOffStage : ByteArray := prog_2_method_4_code
def yX0_isOffStage : MethodName := ⟨RX0, "isOffStage", "(I)Z"⟩
abbrev cX0_isWith : ByteArray := prog_2_method_5_code
def yX0_isWith : MethodName := ⟨RX0, "isWith", "(LStepscript$Dancer;I)Z"⟩
abbrev cX0_isBeside : ByteArray := prog_2_method_6_code
def yX0_isBeside : MethodName := ⟨RX0, "isBeside", "(LStepscript$Dancer;I)Z"⟩
abbrev cX0_changesPlacesWith : ByteArray := prog_2_method_7_code
def yX0_changesPlacesWith : MethodName := ⟨RX0, "changesPlacesWith", "(LStepscript$Dancer;I)Z"⟩
abbrev cX0_takesPlaceOf : ByteArray := prog_2_method_8_code
def yX0_takesPlaceOf : MethodName := ⟨RX0, "takesPlaceOf", "(LStepscript$Dancer;I)Z"⟩
abbrev cX0_canVisit : ByteArray := prog_2_method_9_code
def yX0_canVisit : MethodName := ⟨RX0, "canVisit", "(LStepscript$Dancer;I)Z"⟩
abbrev cX0_visit : ByteArray := prog_2_method_10_code
def yX0_visit : MethodName := ⟨RX0, "visit", "(LStepscript$Dancer;I)V"⟩
def RX1 : String := "Stepscript$Lift"
def TX1 : u_T := fun k => match k with
  | 0 => ("Stepscript$Lift", "count", "I", true)
  | 1 => ("Stepscript$Lift", "lifted", "I", true)
  | 2 => ("Stepscript$Lift", "one", "I", false)
  | 3 => ("Stepscript$Lift", "other", "I", false)
  | _ => ("Stepscript$Lift", "gone", "Z", false)
def tyX1 : Nat → FieldType := fun k => match k with
  | 0 => .int
  | 1 => .int
  | 2 => .int
  | 3 => .int
  | _ => .boolean
abbrev wsX10 : List Cond := u_ws RX1 TX1 5
theorem nmX1 : ∀ a, a < 5 → ∀ b, b < 5 → a ≠ b → (TX1 a).2.1 ≠ (TX1 b).2.1 := by decide +kernel
theorem tyX1_ok : ∀ k, k < 5 → parseFieldDescriptor (TX1 k).2.2.1 = some (tyX1 k) := by decide +kernel
abbrev cX1_init : ByteArray := prog_3_method_1_code
def yX1_init : MethodName := ⟨RX1, "<init>", "(IIII)V"⟩
abbrev cX1_isBy : ByteArray := prog_3_method_2_code
def yX1_isBy : MethodName := ⟨RX1, "isBy", "(I)Z"⟩
abbrev cX1_has : ByteArray := prog_3_method_3_code
def yX1_has : MethodName := ⟨RX1, "has", "(I)Z"⟩
abbrev cX1_replace : ByteArray := prog_3_method_4_code
def yX1_replace : MethodName := ⟨RX1, "replace", "(II)V"⟩
def RX2 : String := "Stepscript$Track"
def TX2 : u_T := fun k => match k with
  | 0 => ("Stepscript$Track", "first", "I", true)
  | 1 => ("Stepscript$Track", "moves", "[I", true)
  | _ => ("Stepscript$Track", "places", "[I", true)
def tyX2 : Nat → FieldType := fun k => match k with
  | 0 => .int
  | 1 => .array .int
  | _ => .array .int
abbrev wsX20 : List Cond := u_ws RX2 TX2 3
theorem nmX2 : ∀ a, a < 3 → ∀ b, b < 3 → a ≠ b → (TX2 a).2.1 ≠ (TX2 b).2.1 := by decide +kernel
theorem tyX2_ok : ∀ k, k < 3 → parseFieldDescriptor (TX2 k).2.2.1 = some (tyX2 k) := by decide +kernel
abbrev cX2_init : ByteArray := prog_4_method_1_code
def yX2_init : MethodName := ⟨RX2, "<init>", "(I)V"⟩
abbrev cX2_write : ByteArray := prog_4_method_2_code
def yX2_write : MethodName := ⟨RX2, "write", "(II)V"⟩
abbrev cX2_placeAheadOf : ByteArray := prog_4_method_3_code
def yX2_placeAheadOf : MethodName := ⟨RX2, "placeAheadOf", "(I)I"⟩
abbrev cX2_followedTo : ByteArray := prog_4_method_4_code
def yX2_followedTo : MethodName := ⟨RX2, "followedTo", "(I)I"⟩
abbrev cX2_wayIn : ByteArray := prog_4_method_5_code
def yX2_wayIn : MethodName := ⟨RX2, "wayIn", "(II)I"⟩
abbrev cX2_wayTo : ByteArray := prog_4_method_6_code
def yX2_wayTo : MethodName := ⟨RX2, "wayTo", "(LStepscript$Track;I)I"⟩
abbrev cX2_canVisit : ByteArray := prog_4_method_7_code
def yX2_canVisit : MethodName := ⟨RX2, "canVisit", "(LStepscript$Track;I)Z"⟩
abbrev cX2_visit : ByteArray := prog_4_method_8_code
def yX2_visit : MethodName := ⟨RX2, "visit", "(LStepscript$Track;I)V"⟩
def RX3 : String := "Stepscript"
def TX3 : u_T := fun k => match k with
  | 0 => ("Stepscript", "dancers", "Ljava/util/ArrayList;", true)
  | 1 => ("Stepscript", "lifts", "Ljava/util/ArrayList;", true)
  | 2 => ("Stepscript", "told", "[I", true)
  | 3 => ("Stepscript", "plans", "[[I", true)
  | _ => ("Stepscript", "day", "I", false)
def tyX3 : Nat → FieldType := fun k => match k with
  | 0 => .object "java/util/ArrayList"
  | 1 => .object "java/util/ArrayList"
  | 2 => .array .int
  | 3 => .array (.array .int)
  | _ => .int
abbrev wsX30 : List Cond := u_ws RX3 TX3 5
theorem nmX3 : ∀ a, a < 5 → ∀ b, b < 5 → a ≠ b → (TX3 a).2.1 ≠ (TX3 b).2.1 := by decide +kernel
theorem tyX3_ok : ∀ k, k < 5 → parseFieldDescriptor (TX3 k).2.2.1 = some (tyX3 k) := by decide +kernel
abbrev cX3_init : ByteArray := prog_1_method_1_code
def yX3_init : MethodName := ⟨RX3, "<init>", "()V"⟩
abbrev cX3_dancer : ByteArray := prog_1_method_2_code
def yX3_dancer : MethodName := ⟨RX3, "dancer", "(II)I"⟩
abbrev cX3_move : ByteArray := prog_1_method_3_code
def yX3_move : MethodName := ⟨RX3, "move", "(IIII)I"⟩
abbrev cX3_place : ByteArray := prog_1_method_4_code
def yX3_place : MethodName := ⟨RX3, "place", "(IIZ)I"⟩
abbrev cX3_placeAnew : ByteArray := prog_1_method_5_code
def yX3_placeAnew : MethodName := ⟨RX3, "placeAnew", "(IIZ)I"⟩
abbrev cX3_clashes : ByteArray := prog_1_method_6_code
def yX3_clashes : MethodName := ⟨RX3, "clashes", "(I)I"⟩
abbrev cX3_firstClash : ByteArray := prog_1_method_7_code
def yX3_firstClash : MethodName := ⟨RX3, "firstClash", "()I"⟩
abbrev cX3_lift : ByteArray := prog_1_method_8_code
def yX3_lift : MethodName := ⟨RX3, "lift", "(IIII)I"⟩
abbrev cX3_ofLift : ByteArray := prog_1_method_9_code
def yX3_ofLift : MethodName := ⟨RX3, "ofLift", "(II)I"⟩
abbrev cX3_tempo : ByteArray := prog_1_method_10_code
def yX3_tempo : MethodName := ⟨RX3, "tempo", "(II)I"⟩
abbrev cX3_begins : ByteArray := prog_1_method_11_code
def yX3_begins : MethodName := ⟨RX3, "begins", "(I)I"⟩
abbrev cX3_rehearse : ByteArray := prog_1_method_12_code
def yX3_rehearse : MethodName := ⟨RX3, "rehearse", "(IIII)I"⟩
abbrev cX3_rehearsal : ByteArray := prog_1_method_13_code
def yX3_rehearsal : MethodName := ⟨RX3, "rehearsal", "(II)I"⟩
abbrev cX3_knees : ByteArray := prog_1_method_14_code
def yX3_knees : MethodName := ⟨RX3, "knees", "(I)I"⟩
abbrev cX3_sleep : ByteArray := prog_1_method_15_code
def yX3_sleep : MethodName := ⟨RX3, "sleep", "()I"⟩
abbrev cX3_hurt : ByteArray := prog_1_method_16_code
def yX3_hurt : MethodName := ⟨RX3, "hurt", "(I)I"⟩
abbrev cX3_needDancer : ByteArray := prog_1_method_17_code
def yX3_needDancer : MethodName := ⟨RX3, "needDancer", "(I)V"⟩
abbrev cX3_needCount : ByteArray := prog_1_method_18_code
def yX3_needCount : MethodName := ⟨RX3, "needCount", "(I)V"⟩
abbrev cX3_needRoom : ByteArray := prog_1_method_19_code
def yX3_needRoom : MethodName := ⟨RX3, "needRoom", "(I)V"⟩
abbrev cX3_needHour : ByteArray := prog_1_method_20_code
def yX3_needHour : MethodName := ⟨RX3, "needHour", "(I)V"⟩
abbrev cX3_isOnStage : ByteArray := prog_1_method_21_code
def yX3_isOnStage : MethodName := ⟨RX3, "isOnStage", "(I)Z"⟩
abbrev cX3_isMove : ByteArray := prog_1_method_22_code
def yX3_isMove : MethodName := ⟨RX3, "isMove", "(I)Z"⟩
abbrev cX3_isFirstPlace : ByteArray := prog_1_method_23_code
def yX3_isFirstPlace : MethodName := ⟨RX3, "isFirstPlace", "(II)Z"⟩
abbrev cX3_isOut : ByteArray := prog_1_method_24_code
def yX3_isOut : MethodName := ⟨RX3, "isOut", "(I)Z"⟩
abbrev cX3_clashesAt : ByteArray := prog_1_method_25_code
def yX3_clashesAt : MethodName := ⟨RX3, "clashesAt", "(I)I"⟩
abbrev cX3_liftsWith : ByteArray := prog_1_method_26_code
def yX3_liftsWith : MethodName := ⟨RX3, "liftsWith", "(III)I"⟩
abbrev cX3_stateOf : ByteArray := prog_1_method_27_code
def yX3_stateOf : MethodName := ⟨RX3, "stateOf", "(LStepscript$Lift;)I"⟩
abbrev cX3_isFreeFor : ByteArray := prog_1_method_28_code
def yX3_isFreeFor : MethodName := ⟨RX3, "isFreeFor", "(LStepscript$Lift;I)Z"⟩
abbrev cX3_isBesideLifted : ByteArray := prog_1_method_29_code
def yX3_isBesideLifted : MethodName := ⟨RX3, "isBesideLifted", "(LStepscript$Lift;I)Z"⟩
abbrev cX3_lastOf : ByteArray := prog_1_method_30_code
def yX3_lastOf : MethodName := ⟨RX3, "lastOf", "(I)I"⟩
abbrev cX3_lastsAheadOf : ByteArray := prog_1_method_31_code
def yX3_lastsAheadOf : MethodName := ⟨RX3, "lastsAheadOf", "(I)J"⟩
abbrev cX3_freeRooms : ByteArray := prog_1_method_32_code
def yX3_freeRooms : MethodName := ⟨RX3, "freeRooms", "()V"⟩
abbrev cX3_takesPart : ByteArray := prog_1_method_33_code
def yX3_takesPart : MethodName := ⟨RX3, "takesPart", "(II)Z"⟩
abbrev cX3_partsIn : ByteArray := prog_1_method_34_code
def yX3_partsIn : MethodName := ⟨RX3, "partsIn", "(II)I"⟩
abbrev cX3_pointsFor : ByteArray := prog_1_method_35_code
def yX3_pointsFor : MethodName := ⟨RX3, "pointsFor", "(III)I"⟩
abbrev cX3_isAnyBusy : ByteArray := prog_1_method_36_code
def yX3_isAnyBusy : MethodName := ⟨RX3, "isAnyBusy", "(II)Z"⟩
abbrev cX3_canKneesBear : ByteArray := prog_1_method_37_code
def yX3_canKneesBear : MethodName := ⟨RX3, "canKneesBear", "(III)Z"⟩
abbrev cX3_chargeKnees : ByteArray := prog_1_method_38_code
def yX3_chargeKnees : MethodName := ⟨RX3, "chargeKnees", "(III)V"⟩
abbrev cX3_dropLiftsOf : ByteArray := prog_1_method_39_code
def yX3_dropLiftsOf : MethodName := ⟨RX3, "dropLiftsOf", "(I)V"⟩
abbrev cX3_replaceIn : ByteArray := prog_1_method_40_code
def yX3_replaceIn : MethodName := ⟨RX3, "replaceIn", "(LStepscript$Lift;I)I"⟩
abbrev cX3_movesNeeded : ByteArray := prog_1_method_41_code
def yX3_movesNeeded : MethodName := ⟨RX3, "movesNeeded", "(LStepscript$Lift;II)I"⟩
def RX4 : String := "StepscriptModel"
def TX4 : u_T := fun k => match k with
  | 0 => ("StepscriptModel", "first", "[I", true)
  | 1 => ("StepscriptModel", "second", "[I", true)
  | 2 => ("StepscriptModel", "out", "[I", true)
  | 3 => ("StepscriptModel", "knees", "[I", true)
  | 4 => ("StepscriptModel", "dancers", "I", false)
  | 5 => ("StepscriptModel", "mx", "[I", true)
  | 6 => ("StepscriptModel", "my", "[I", true)
  | 7 => ("StepscriptModel", "lc", "[I", true)
  | 8 => ("StepscriptModel", "ll", "[I", true)
  | 9 => ("StepscriptModel", "la", "[I", true)
  | 10 => ("StepscriptModel", "lb", "[I", true)
  | 11 => ("StepscriptModel", "lg", "[I", true)
  | 12 => ("StepscriptModel", "lifts", "I", false)
  | 13 => ("StepscriptModel", "told", "[I", true)
  | 14 => ("StepscriptModel", "taken", "[I", true)
  | 15 => ("StepscriptModel", "day", "I", false)
  | _ => ("StepscriptModel", "thrown", "I", false)
def tyX4 : Nat → FieldType := fun k => match k with
  | 0 => .array .int
  | 1 => .array .int
  | 2 => .array .int
  | 3 => .array .int
  | 4 => .int
  | 5 => .array .int
  | 6 => .array .int
  | 7 => .array .int
  | 8 => .array .int
  | 9 => .array .int
  | 10 => .array .int
  | 11 => .array .int
  | 12 => .int
  | 13 => .array .int
  | 14 => .array .int
  | 15 => .int
  | _ => .int
abbrev wsX40 : List Cond := u_ws RX4 TX4 17
theorem nmX4 : ∀ a, a < 17 → ∀ b, b < 17 → a ≠ b → (TX4 a).2.1 ≠ (TX4 b).2.1 := by decide +kernel
theorem tyX4_ok : ∀ k, k < 17 → parseFieldDescriptor (TX4 k).2.2.1 = some (tyX4 k) := by decide +kernel
abbrev cX4_init : ByteArray := prog_6_method_1_code
def yX4_init : MethodName := ⟨RX4, "<init>", "()V"⟩
abbrev cX4_thrown : ByteArray := prog_6_method_2_code
def yX4_thrown : MethodName := ⟨RX4, "thrown", "()I"⟩
abbrev cX4_holds : ByteArray := prog_6_method_3_code
def yX4_holds : MethodName := ⟨RX4, "holds", "(I)Z"⟩
abbrev cX4_in : ByteArray := prog_6_method_4_code
def yX4_in : MethodName := ⟨RX4, "in", "(III)Z"⟩
abbrev cX4_frees : ByteArray := prog_6_method_5_code
def yX4_frees : MethodName := ⟨RX4, "frees", "()V"⟩
abbrev cX4_isDancer : ByteArray := prog_6_method_6_code
def yX4_isDancer : MethodName := ⟨RX4, "isDancer", "(I)Z"⟩
abbrev cX4_isCount : ByteArray := prog_6_method_7_code
def yX4_isCount : MethodName := ⟨RX4, "isCount", "(I)Z"⟩
abbrev cX4_dancer : ByteArray := prog_6_method_8_code
def yX4_dancer : MethodName := ⟨RX4, "dancer", "(II)I"⟩
abbrev cX4_move : ByteArray := prog_6_method_9_code
def yX4_move : MethodName := ⟨RX4, "move", "(IIII)I"⟩
abbrev cX4_x : ByteArray := prog_6_method_10_code
def yX4_x : MethodName := ⟨RX4, "x", "(II)I"⟩
abbrev cX4_y : ByteArray := prog_6_method_11_code
def yX4_y : MethodName := ⟨RX4, "y", "(II)I"⟩
abbrev cX4_place : ByteArray := prog_6_method_12_code
def yX4_place : MethodName := ⟨RX4, "place", "(IIZ)I"⟩
abbrev cX4_placeAnew : ByteArray := prog_6_method_13_code
def yX4_placeAnew : MethodName := ⟨RX4, "placeAnew", "(IIZ)I"⟩
abbrev cX4_isAt : ByteArray := prog_6_method_14_code
def yX4_isAt : MethodName := ⟨RX4, "isAt", "(IIII)Z"⟩
abbrev cX4_clash : ByteArray := prog_6_method_15_code
def yX4_clash : MethodName := ⟨RX4, "clash", "(I)I"⟩
abbrev cX4_clashes : ByteArray := prog_6_method_16_code
def yX4_clashes : MethodName := ⟨RX4, "clashes", "(I)I"⟩
abbrev cX4_firstClash : ByteArray := prog_6_method_17_code
def yX4_firstClash : MethodName := ⟨RX4, "firstClash", "()I"⟩
abbrev cX4_isOf : ByteArray := prog_6_method_18_code
def yX4_isOf : MethodName := ⟨RX4, "isOf", "(II)Z"⟩
abbrev cX4_liftsOf : ByteArray := prog_6_method_19_code
def yX4_liftsOf : MethodName := ⟨RX4, "liftsOf", "(II)I"⟩
abbrev cX4_isBeside : ByteArray := prog_6_method_20_code
def yX4_isBeside : MethodName := ⟨RX4, "isBeside", "(III)Z"⟩
abbrev cX4_stands : ByteArray := prog_6_method_21_code
def yX4_stands : MethodName := ⟨RX4, "stands", "(I)Z"⟩
abbrev cX4_lift : ByteArray := prog_6_method_22_code
def yX4_lift : MethodName := ⟨RX4, "lift", "(IIII)I"⟩
abbrev cX4_ofLift : ByteArray := prog_6_method_23_code
def yX4_ofLift : MethodName := ⟨RX4, "ofLift", "(II)I"⟩
abbrev cX4_lasts : ByteArray := prog_6_method_24_code
def yX4_lasts : MethodName := ⟨RX4, "lasts", "(I)I"⟩
abbrev cX4_tempo : ByteArray := prog_6_method_25_code
def yX4_tempo : MethodName := ⟨RX4, "tempo", "(II)I"⟩
abbrev cX4_begins : ByteArray := prog_6_method_26_code
def yX4_begins : MethodName := ⟨RX4, "begins", "(I)I"⟩
abbrev cX4_flat : ByteArray := prog_6_method_27_code
def yX4_flat : MethodName := ⟨RX4, "flat", "(I)I"⟩
abbrev cX4_cost : ByteArray := prog_6_method_28_code
def yX4_cost : MethodName := ⟨RX4, "cost", "(III)I"⟩
abbrev cX4_isBusy : ByteArray := prog_6_method_29_code
def yX4_isBusy : MethodName := ⟨RX4, "isBusy", "(II)Z"⟩
abbrev cX4_rehearse : ByteArray := prog_6_method_30_code
def yX4_rehearse : MethodName := ⟨RX4, "rehearse", "(IIII)I"⟩
abbrev cX4_rehearsal : ByteArray := prog_6_method_31_code
def yX4_rehearsal : MethodName := ⟨RX4, "rehearsal", "(II)I"⟩
abbrev cX4_knees : ByteArray := prog_6_method_32_code
def yX4_knees : MethodName := ⟨RX4, "knees", "(I)I"⟩
abbrev cX4_canCome : ByteArray := prog_6_method_33_code
def yX4_canCome : MethodName := ⟨RX4, "canCome", "(III)Z"⟩
abbrev cX4_comes : ByteArray := prog_6_method_34_code
def yX4_comes : MethodName := ⟨RX4, "comes", "(III)V"⟩
abbrev cX4_mends : ByteArray := prog_6_method_35_code
def yX4_mends : MethodName := ⟨RX4, "mends", "(II)I"⟩
abbrev cX4_hurt : ByteArray := prog_6_method_36_code
def yX4_hurt : MethodName := ⟨RX4, "hurt", "(I)I"⟩
abbrev cX4_sleep : ByteArray := prog_6_method_37_code
def yX4_sleep : MethodName := ⟨RX4, "sleep", "()I"⟩
def RJx145de : String := "java/io/Serializable"
def TJx145de : u_T := fun k => match k with
  | _ => ("", "", "", false)
def tyJx145de : Nat → FieldType := fun k => match k with
  | _ => .int
abbrev wsJx145de0 : List Cond := u_ws RJx145de TJx145de 0
theorem nmJx145de : ∀ a, a < 0 → ∀ b, b < 0 → a ≠ b → (TJx145de a).2.1 ≠ (TJx145de b).2.1 := by decide +kernel
theorem tyJx145de_ok : ∀ k, k < 0 → parseFieldDescriptor (TJx145de k).2.2.1 = some (tyJx145de k) := by decide +kernel
def RJx00060 : String := "java/lang/ArrayIndexOutOfBoundsException"
def TJx00060 : u_T := fun k => match k with
  | 0 => ("java/lang/Throwable", "backtrace", "Ljava/lang/Object;", false)
  | 1 => ("java/lang/Throwable", "detailMessage", "Ljava/lang/String;", false)
  | 2 => ("java/lang/Throwable", "cause", "Ljava/lang/Throwable;", false)
  | 3 => ("java/lang/Throwable", "stackTrace", "[Ljava/lang/StackTraceElement;", false)
  | 4 => ("java/lang/Throwable", "depth", "I", false)
  | _ => ("java/lang/Throwable", "suppressedExceptions", "Ljava/util/List;", false)
def tyJx00060 : Nat → FieldType := fun k => match k with
  | 0 => .object "java/lang/Object"
  | 1 => .object "java/lang/String"
  | 2 => .object "java/lang/Throwable"
  | 3 => .array (.object "java/lang/StackTraceElement")
  | 4 => .int
  | _ => .object "java/util/List"
abbrev wsJx000600 : List Cond := u_ws RJx00060 TJx00060 6
theorem nmJx00060 : ∀ a, a < 6 → ∀ b, b < 6 → a ≠ b → (TJx00060 a).2.1 ≠ (TJx00060 b).2.1 := by decide +kernel
theorem tyJx00060_ok : ∀ k, k < 6 → parseFieldDescriptor (TJx00060 k).2.2.1 = some (tyJx00060 k) := by decide +kernel
abbrev cJx00060_init_a7421 : ByteArray := prog_9_method_2_code
def yJx00060_init_a7421 : MethodName := ⟨RJx00060, "<init>", "(Ljava/lang/String;)V"⟩
def RJx8e188 : String := "java/lang/Cloneable"
def TJx8e188 : u_T := fun k => match k with
  | _ => ("", "", "", false)
def tyJx8e188 : Nat → FieldType := fun k => match k with
  | _ => .int
abbrev wsJx8e1880 : List Cond := u_ws RJx8e188 TJx8e188 0
theorem nmJx8e188 : ∀ a, a < 0 → ∀ b, b < 0 → a ≠ b → (TJx8e188 a).2.1 ≠ (TJx8e188 b).2.1 := by decide +kernel
theorem tyJx8e188_ok : ∀ k, k < 0 → parseFieldDescriptor (TJx8e188 k).2.2.1 = some (tyJx8e188 k) := by decide +kernel
def RJxab1ab : String := "java/lang/Iterable"
def TJxab1ab : u_T := fun k => match k with
  | _ => ("", "", "", false)
def tyJxab1ab : Nat → FieldType := fun k => match k with
  | _ => .int
abbrev wsJxab1ab0 : List Cond := u_ws RJxab1ab TJxab1ab 0
theorem nmJxab1ab : ∀ a, a < 0 → ∀ b, b < 0 → a ≠ b → (TJxab1ab a).2.1 ≠ (TJxab1ab b).2.1 := by decide +kernel
theorem tyJxab1ab_ok : ∀ k, k < 0 → parseFieldDescriptor (TJxab1ab k).2.2.1 = some (tyJxab1ab k) := by decide +kernel
def RJ9 : String := "java/lang/Math"
def TJ9 : u_T := fun k => match k with
  | _ => ("", "", "", false)
def tyJ9 : Nat → FieldType := fun k => match k with
  | _ => .int
abbrev wsJ90 : List Cond := u_ws RJ9 TJ9 0
theorem nmJ9 : ∀ a, a < 0 → ∀ b, b < 0 → a ≠ b → (TJ9 a).2.1 ≠ (TJ9 b).2.1 := by decide +kernel
theorem tyJ9_ok : ∀ k, k < 0 → parseFieldDescriptor (TJ9 k).2.2.1 = some (tyJ9 k) := by decide +kernel
abbrev cJ9_abs_0f7a4 : ByteArray := prog_16_method_59_code
def yJ9_abs_0f7a4 : MethodName := ⟨RJ9, "abs", "(I)I"⟩
abbrev cJ9_max_7cf53 : ByteArray := prog_16_method_65_code
def yJ9_max_7cf53 : MethodName := ⟨RJ9, "max", "(II)I"⟩
abbrev cJ9_min_7cf53 : ByteArray := prog_16_method_69_code
def yJ9_min_7cf53 : MethodName := ⟨RJ9, "min", "(II)I"⟩
def RJ0 : String := "java/lang/String"
def TJ0 : u_T := fun k => match k with
  | 0 => ("java/lang/String", "value", "[B", true)
  | _ => ("java/lang/String", "coder", "B", true)
def tyJ0 : Nat → FieldType := fun k => match k with
  | 0 => .array .byte
  | _ => .byte
abbrev wsJ00 : List Cond := u_ws RJ0 TJ0 2
theorem nmJ0 : ∀ a, a < 2 → ∀ b, b < 2 → a ≠ b → (TJ0 a).2.1 ≠ (TJ0 b).2.1 := by decide +kernel
theorem tyJ0_ok : ∀ k, k < 2 → parseFieldDescriptor (TJ0 k).2.2.1 = some (tyJ0 k) := by decide +kernel
def RJ10 : String := "java/lang/System"
def TJ10 : u_T := fun k => match k with
  | _ => ("", "", "", false)
def tyJ10 : Nat → FieldType := fun k => match k with
  | _ => .int
abbrev wsJ100 : List Cond := u_ws RJ10 TJ10 0
theorem nmJ10 : ∀ a, a < 0 → ∀ b, b < 0 → a ≠ b → (TJ10 a).2.1 ≠ (TJ10 b).2.1 := by decide +kernel
theorem tyJ10_ok : ∀ k, k < 0 → parseFieldDescriptor (TJ10 k).2.2.1 = some (tyJ10 k) := by decide +kernel
def RJxa1e45 : String := "java/util/AbstractCollection"
def TJxa1e45 : u_T := fun k => match k with
  | _ => ("", "", "", false)
def tyJxa1e45 : Nat → FieldType := fun k => match k with
  | _ => .int
abbrev wsJxa1e450 : List Cond := u_ws RJxa1e45 TJxa1e45 0
theorem nmJxa1e45 : ∀ a, a < 0 → ∀ b, b < 0 → a ≠ b → (TJxa1e45 a).2.1 ≠ (TJxa1e45 b).2.1 := by decide +kernel
theorem tyJxa1e45_ok : ∀ k, k < 0 → parseFieldDescriptor (TJxa1e45 k).2.2.1 = some (tyJxa1e45 k) := by decide +kernel
abbrev cJxa1e45_init_da8c8 : ByteArray := prog_21_method_1_code
def yJxa1e45_init_da8c8 : MethodName := ⟨RJxa1e45, "<init>", "()V"⟩
def RJxc12de : String := "java/util/AbstractList"
def TJxc12de : u_T := fun k => match k with
  | _ => ("", "", "", false)
def tyJxc12de : Nat → FieldType := fun k => match k with
  | _ => .int
abbrev wsJxc12de0 : List Cond := u_ws RJxc12de TJxc12de 0
theorem nmJxc12de : ∀ a, a < 0 → ∀ b, b < 0 → a ≠ b → (TJxc12de a).2.1 ≠ (TJxc12de b).2.1 := by decide +kernel
theorem tyJxc12de_ok : ∀ k, k < 0 → parseFieldDescriptor (TJxc12de k).2.2.1 = some (tyJxc12de k) := by decide +kernel
abbrev cJxc12de_init_da8c8 : ByteArray := prog_22_method_1_code
def yJxc12de_init_da8c8 : MethodName := ⟨RJxc12de, "<init>", "()V"⟩
def RJx4a65c : String := "java/util/ArrayList"
def TJx4a65c : u_T := fun k => match k with
  | 0 => ("java/util/AbstractList", "modCount", "I", false)
  | 1 => ("java/util/ArrayList", "elementData", "[Ljava/lang/Object;", false)
  | _ => ("java/util/ArrayList", "size", "I", false)
def tyJx4a65c : Nat → FieldType := fun k => match k with
  | 0 => .int
  | 1 => .array (.object "java/lang/Object")
  | _ => .int
abbrev wsJx4a65c0 : List Cond := u_ws RJx4a65c TJx4a65c 3
theorem nmJx4a65c : ∀ a, a < 3 → ∀ b, b < 3 → a ≠ b → (TJx4a65c a).2.1 ≠ (TJx4a65c b).2.1 := by decide +kernel
theorem tyJx4a65c_ok : ∀ k, k < 3 → parseFieldDescriptor (TJx4a65c k).2.2.1 = some (tyJx4a65c k) := by decide +kernel
abbrev cJx4a65c_init_da8c8 : ByteArray := prog_23_method_2_code
def yJx4a65c_init_da8c8 : MethodName := ⟨RJx4a65c, "<init>", "()V"⟩
abbrev cJx4a65c_grow_92f84 : ByteArray := prog_23_method_6_code
def yJx4a65c_grow_92f84 : MethodName := ⟨RJx4a65c, "grow", "(I)[Ljava/lang/Object;"⟩
abbrev cJx4a65c_grow_d5877 : ByteArray := prog_23_method_7_code
def yJx4a65c_grow_d5877 : MethodName := ⟨RJx4a65c, "grow", "()[Ljava/lang/Object;"⟩
abbrev cJx4a65c_size_8abf5 : ByteArray := prog_23_method_8_code
def yJx4a65c_size_8abf5 : MethodName := ⟨RJx4a65c, "size", "()I"⟩
abbrev cJx4a65c_elementData_915e3 : ByteArray := prog_23_method_18_code
def yJx4a65c_elementData_915e3 : MethodName := ⟨RJx4a65c, "elementData", "(I)Ljava/lang/Object;"⟩
abbrev cJx4a65c_get_915e3 : ByteArray := prog_23_method_20_code
def yJx4a65c_get_915e3 : MethodName := ⟨RJx4a65c, "get", "(I)Ljava/lang/Object;"⟩
abbrev cJx4a65c_add_72be8 : ByteArray := prog_23_method_24_code
def yJx4a65c_add_72be8 : MethodName := ⟨RJx4a65c, "add", "(Ljava/lang/Object;[Ljava/lang/Object;I)V"⟩
abbrev cJx4a65c_add_9ea2d : ByteArray := prog_23_method_25_code
def yJx4a65c_add_9ea2d : MethodName := ⟨RJx4a65c, "add", "(Ljava/lang/Object;)Z"⟩
def RJ7 : String := "java/util/Arrays"
def TJ7 : u_T := fun k => match k with
  | _ => ("", "", "", false)
def tyJ7 : Nat → FieldType := fun k => match k with
  | _ => .int
abbrev wsJ70 : List Cond := u_ws RJ7 TJ7 0
theorem nmJ7 : ∀ a, a < 0 → ∀ b, b < 0 → a ≠ b → (TJ7 a).2.1 ≠ (TJ7 b).2.1 := by decide +kernel
theorem tyJ7_ok : ∀ k, k < 0 → parseFieldDescriptor (TJ7 k).2.2.1 = some (tyJ7 k) := by decide +kernel
abbrev cJ7_fill_53178 : ByteArray := prog_24_method_103_code
def yJ7_fill_53178 : MethodName := ⟨RJ7, "fill", "([II)V"⟩
abbrev cJ7_copyOf_1904c : ByteArray := prog_24_method_119_code
def yJ7_copyOf_1904c : MethodName := ⟨RJ7, "copyOf", "([Ljava/lang/Object;I)[Ljava/lang/Object;"⟩
abbrev cJ7_copyOf_6403c : ByteArray := prog_24_method_120_code
def yJ7_copyOf_6403c : MethodName := ⟨RJ7, "copyOf", "([Ljava/lang/Object;ILjava/lang/Class;)[Ljava/lang/Object;"⟩
def RJx5ef63 : String := "java/util/Collection"
def TJx5ef63 : u_T := fun k => match k with
  | _ => ("", "", "", false)
def tyJx5ef63 : Nat → FieldType := fun k => match k with
  | _ => .int
abbrev wsJx5ef630 : List Cond := u_ws RJx5ef63 TJx5ef63 0
theorem nmJx5ef63 : ∀ a, a < 0 → ∀ b, b < 0 → a ≠ b → (TJx5ef63 a).2.1 ≠ (TJx5ef63 b).2.1 := by decide +kernel
theorem tyJx5ef63_ok : ∀ k, k < 0 → parseFieldDescriptor (TJx5ef63 k).2.2.1 = some (tyJx5ef63 k) := by decide +kernel
def RJxbd725 : String := "java/util/List"
def TJxbd725 : u_T := fun k => match k with
  | _ => ("", "", "", false)
def tyJxbd725 : Nat → FieldType := fun k => match k with
  | _ => .int
abbrev wsJxbd7250 : List Cond := u_ws RJxbd725 TJxbd725 0
theorem nmJxbd725 : ∀ a, a < 0 → ∀ b, b < 0 → a ≠ b → (TJxbd725 a).2.1 ≠ (TJxbd725 b).2.1 := by decide +kernel
theorem tyJxbd725_ok : ∀ k, k < 0 → parseFieldDescriptor (TJxbd725 k).2.2.1 = some (tyJxbd725 k) := by decide +kernel
def RJ15 : String := "java/util/Objects"
def TJ15 : u_T := fun k => match k with
  | _ => ("", "", "", false)
def tyJ15 : Nat → FieldType := fun k => match k with
  | _ => .int
abbrev wsJ150 : List Cond := u_ws RJ15 TJ15 0
theorem nmJ15 : ∀ a, a < 0 → ∀ b, b < 0 → a ≠ b → (TJ15 a).2.1 ≠ (TJ15 b).2.1 := by decide +kernel
theorem tyJ15_ok : ∀ k, k < 0 → parseFieldDescriptor (TJ15 k).2.2.1 = some (tyJ15 k) := by decide +kernel
abbrev cJ15_checkIndex_7cf53 : ByteArray := prog_27_method_17_code
def yJ15_checkIndex_7cf53 : MethodName := ⟨RJ15, "checkIndex", "(II)I"⟩
def RJxf0a74 : String := "java/util/RandomAccess"
def TJxf0a74 : u_T := fun k => match k with
  | _ => ("", "", "", false)
def tyJxf0a74 : Nat → FieldType := fun k => match k with
  | _ => .int
abbrev wsJxf0a740 : List Cond := u_ws RJxf0a74 TJxf0a74 0
theorem nmJxf0a74 : ∀ a, a < 0 → ∀ b, b < 0 → a ≠ b → (TJxf0a74 a).2.1 ≠ (TJxf0a74 b).2.1 := by decide +kernel
theorem tyJxf0a74_ok : ∀ k, k < 0 → parseFieldDescriptor (TJxf0a74 k).2.2.1 = some (tyJxf0a74 k) := by decide +kernel
def RJxa66e6 : String := "java/util/SequencedCollection"
def TJxa66e6 : u_T := fun k => match k with
  | _ => ("", "", "", false)
def tyJxa66e6 : Nat → FieldType := fun k => match k with
  | _ => .int
abbrev wsJxa66e60 : List Cond := u_ws RJxa66e6 TJxa66e6 0
theorem nmJxa66e6 : ∀ a, a < 0 → ∀ b, b < 0 → a ≠ b → (TJxa66e6 a).2.1 ≠ (TJxa66e6 b).2.1 := by decide +kernel
theorem tyJxa66e6_ok : ∀ k, k < 0 → parseFieldDescriptor (TJxa66e6 k).2.2.1 = some (tyJxa66e6 k) := by decide +kernel
def RJ8 : String := "jdk/internal/util/ArraysSupport"
def TJ8 : u_T := fun k => match k with
  | _ => ("", "", "", false)
def tyJ8 : Nat → FieldType := fun k => match k with
  | _ => .int
abbrev wsJ80 : List Cond := u_ws RJ8 TJ8 0
theorem nmJ8 : ∀ a, a < 0 → ∀ b, b < 0 → a ≠ b → (TJ8 a).2.1 ≠ (TJ8 b).2.1 := by decide +kernel
theorem tyJ8_ok : ∀ k, k < 0 → parseFieldDescriptor (TJ8 k).2.2.1 = some (tyJ8 k) := by decide +kernel
abbrev cJ8_newLength_cabcc : ByteArray := prog_30_method_27_code
def yJ8_newLength_cabcc : MethodName := ⟨RJ8, "newLength", "(III)I"⟩
abbrev cJ8_hugeLength_7cf53 : ByteArray := prog_30_method_28_code
def yJ8_hugeLength_7cf53 : MethodName := ⟨RJ8, "hugeLength", "(II)I"⟩
def RJ3 : String := "jdk/internal/util/Preconditions"
def TJ3 : u_T := fun k => match k with
  | _ => ("", "", "", false)
def tyJ3 : Nat → FieldType := fun k => match k with
  | _ => .int
abbrev wsJ30 : List Cond := u_ws RJ3 TJ3 0
theorem nmJ3 : ∀ a, a < 0 → ∀ b, b < 0 → a ≠ b → (TJ3 a).2.1 ≠ (TJ3 b).2.1 := by decide +kernel
theorem tyJ3_ok : ∀ k, k < 0 → parseFieldDescriptor (TJ3 k).2.2.1 = some (tyJ3 k) := by decide +kernel
abbrev cJ3_checkIndex_8e157 : ByteArray := prog_31_method_11_code
def yJ3_checkIndex_8e157 : MethodName := ⟨RJ3, "checkIndex", "(IILjava/util/function/BiFunction;)I"⟩
def RL : String := "StepscriptLaw"
abbrev cL_dancer : ByteArray := method_3_code
def yL_dancer : MethodName := ⟨RL, "dancer", "(LStepscript;II[J)I"⟩
abbrev cL_move : ByteArray := method_4_code
def yL_move : MethodName := ⟨RL, "move", "(LStepscript;IIII[J)I"⟩
abbrev cL_place : ByteArray := method_5_code
def yL_place : MethodName := ⟨RL, "place", "(LStepscript;IIZ[J)I"⟩
abbrev cL_placeAnew : ByteArray := method_6_code
def yL_placeAnew : MethodName := ⟨RL, "placeAnew", "(LStepscript;IIZ[J)I"⟩
abbrev cL_clashes : ByteArray := method_7_code
def yL_clashes : MethodName := ⟨RL, "clashes", "(LStepscript;I[J)I"⟩
abbrev cL_lift : ByteArray := method_8_code
def yL_lift : MethodName := ⟨RL, "lift", "(LStepscript;IIII[J)I"⟩
abbrev cL_ofLift : ByteArray := method_9_code
def yL_ofLift : MethodName := ⟨RL, "ofLift", "(LStepscript;II[J)I"⟩
abbrev cL_tempo : ByteArray := method_10_code
def yL_tempo : MethodName := ⟨RL, "tempo", "(LStepscript;II[J)I"⟩
abbrev cL_begins : ByteArray := method_11_code
def yL_begins : MethodName := ⟨RL, "begins", "(LStepscript;I[J)I"⟩
abbrev cL_rehearse : ByteArray := method_12_code
def yL_rehearse : MethodName := ⟨RL, "rehearse", "(LStepscript;IIII[J)I"⟩
abbrev cL_rehearsal : ByteArray := method_13_code
def yL_rehearsal : MethodName := ⟨RL, "rehearsal", "(LStepscript;II[J)I"⟩
abbrev cL_knees : ByteArray := method_14_code
def yL_knees : MethodName := ⟨RL, "knees", "(LStepscript;I[J)I"⟩
abbrev cL_hurt : ByteArray := method_15_code
def yL_hurt : MethodName := ⟨RL, "hurt", "(LStepscript;I[J)I"⟩
abbrev cL_law : ByteArray := code
def yL_law : MethodName := ⟨RL, "law", "([I)Z"⟩
abbrev vwCl : List vw_C := [(RJ0, TJ0, 2), (RJx00060, TJx00060, 6), (RJx4a65c, TJx4a65c, 3), (RX0, TX0, 4), (RX1, TX1, 5), (RX2, TX2, 3), (RX3, TX3, 5), (RX4, TX4, 17)]
end
section
theorem dX0_init_0 : decode cX0_init 0 = .ok (.aload_n 0, 1) := by decide +kernel
theorem dX0_init_1 : decode cX0_init 1 = .ok (.invokespecial 3, 3) := by decide +kernel
theorem dX0_init_4 : decode cX0_init 4 = .ok (.aload_n 0, 1) := by decide +kernel
theorem dX0_init_5 : decode cX0_init 5 = .ok (.iconst 0, 1) := by decide +kernel
theorem dX0_init_6 : decode cX0_init 6 = .ok (.putfield 9, 3) := by decide +kernel
theorem dX0_init_9 : decode cX0_init 9 = .ok (.aload_n 0, 1) := by decide +kernel
theorem dX0_init_10 : decode cX0_init 10 = .ok (.iconst 0, 1) := by decide +kernel
theorem dX0_init_11 : decode cX0_init 11 = .ok (.putfield 15, 3) := by decide +kernel
theorem dX0_init_14 : decode cX0_init 14 = .ok (.aload_n 0, 1) := by decide +kernel
theorem dX0_init_15 : decode cX0_init 15 = .ok (.new 19, 3) := by decide +kernel
theorem dX0_init_18 : decode cX0_init 18 = .ok (.dup, 1) := by decide +kernel
theorem dX0_init_19 : decode cX0_init 19 = .ok (.iload_n 1, 1) := by decide +kernel
theorem dX0_init_20 : decode cX0_init 20 = .ok (.invokespecial 21, 3) := by decide +kernel
theorem dX0_init_23 : decode cX0_init 23 = .ok (.putfield 24, 3) := by decide +kernel
theorem dX0_init_26 : decode cX0_init 26 = .ok (.aload_n 0, 1) := by decide +kernel
theorem dX0_init_27 : decode cX0_init 27 = .ok (.new 19, 3) := by decide +kernel
theorem dX0_init_30 : decode cX0_init 30 = .ok (.dup, 1) := by decide +kernel
theorem dX0_init_31 : decode cX0_init 31 = .ok (.iload_n 2, 1) := by decide +kernel
theorem dX0_init_32 : decode cX0_init 32 = .ok (.invokespecial 21, 3) := by decide +kernel
theorem dX0_init_35 : decode cX0_init 35 = .ok (.putfield 28, 3) := by decide +kernel
theorem dX0_init_38 : decode cX0_init 38 = .ok (.return_, 1) := by decide +kernel
theorem dX0_track_0 : decode cX0_track 0 = .ok (.iload_n 1, 1) := by decide +kernel
theorem dX0_track_1 : decode cX0_track 1 = .ok (.ifCond .eq 10, 3) := by decide +kernel
theorem dX0_track_4 : decode cX0_track 4 = .ok (.aload_n 0, 1) := by decide +kernel
theorem dX0_track_5 : decode cX0_track 5 = .ok (.getfield 28, 3) := by decide +kernel
theorem dX0_track_8 : decode cX0_track 8 = .ok (.goto 7, 3) := by decide +kernel
theorem dX0_track_11 : decode cX0_track 11 = .ok (.aload_n 0, 1) := by decide +kernel
theorem dX0_track_12 : decode cX0_track 12 = .ok (.getfield 24, 3) := by decide +kernel
theorem dX0_track_15 : decode cX0_track 15 = .ok (.areturn, 1) := by decide +kernel
theorem dX0_countsWithMoves_0 : decode cX0_countsWithMoves 0 = .ok (.iconst 0, 1) := by decide +kernel
theorem dX0_countsWithMoves_1 : decode cX0_countsWithMoves 1 = .ok (.istore_n 1, 1) := by decide +kernel
theorem dX0_countsWithMoves_2 : decode cX0_countsWithMoves 2 = .ok (.iconst 0, 1) := by decide +kernel
theorem dX0_countsWithMoves_3 : decode cX0_countsWithMoves 3 = .ok (.istore_n 2, 1) := by decide +kernel
theorem dX0_countsWithMoves_4 : decode cX0_countsWithMoves 4 = .ok (.iload_n 2, 1) := by decide +kernel
theorem dX0_countsWithMoves_5 : decode cX0_countsWithMoves 5 = .ok (.bipush 64, 2) := by decide +kernel
theorem dX0_countsWithMoves_7 : decode cX0_countsWithMoves 7 = .ok (.if_icmp .ge 36, 3) := by decide +kernel
theorem dX0_countsWithMoves_10 : decode cX0_countsWithMoves 10 = .ok (.aload_n 0, 1) := by decide +kernel
theorem dX0_countsWithMoves_11 : decode cX0_countsWithMoves 11 = .ok (.getfield 24, 3) := by decide +kernel
theorem dX0_countsWithMoves_14 : decode cX0_countsWithMoves 14 = .ok (.getfield 31, 3) := by decide +kernel
theorem dX0_countsWithMoves_17 : decode cX0_countsWithMoves 17 = .ok (.iload_n 2, 1) := by decide +kernel
theorem dX0_countsWithMoves_18 : decode cX0_countsWithMoves 18 = .ok (.iaload, 1) := by decide +kernel
theorem dX0_countsWithMoves_19 : decode cX0_countsWithMoves 19 = .ok (.ifCond .ne 15, 3) := by decide +kernel
theorem dX0_countsWithMoves_22 : decode cX0_countsWithMoves 22 = .ok (.aload_n 0, 1) := by decide +kernel
theorem dX0_countsWithMoves_23 : decode cX0_countsWithMoves 23 = .ok (.getfield 28, 3) := by decide +kernel
theorem dX0_countsWithMoves_26 : decode cX0_countsWithMoves 26 = .ok (.getfield 31, 3) := by decide +kernel
theorem dX0_countsWithMoves_29 : decode cX0_countsWithMoves 29 = .ok (.iload_n 2, 1) := by decide +kernel
theorem dX0_countsWithMoves_30 : decode cX0_countsWithMoves 30 = .ok (.iaload, 1) := by decide +kernel
theorem dX0_countsWithMoves_31 : decode cX0_countsWithMoves 31 = .ok (.ifCond .eq 6, 3) := by decide +kernel
theorem dX0_countsWithMoves_34 : decode cX0_countsWithMoves 34 = .ok (.iinc 1 1, 3) := by decide +kernel
theorem dX0_countsWithMoves_37 : decode cX0_countsWithMoves 37 = .ok (.iinc 2 1, 3) := by decide +kernel
theorem dX0_countsWithMoves_40 : decode cX0_countsWithMoves 40 = .ok (.goto (-36), 3) := by decide +kernel
theorem dX0_countsWithMoves_43 : decode cX0_countsWithMoves 43 = .ok (.iload_n 1, 1) := by decide +kernel
theorem dX0_countsWithMoves_44 : decode cX0_countsWithMoves 44 = .ok (.ireturn, 1) := by decide +kernel
theorem dX0_isOffStage_0 : decode cX0_isOffStage 0 = .ok (.aload_n 0, 1) := by decide +kernel
theorem dX0_isOffStage_1 : decode cX0_isOffStage 1 = .ok (.getfield 24, 3) := by decide +kernel
theorem dX0_isOffStage_4 : decode cX0_isOffStage 4 = .ok (.getfield 35, 3) := by decide +kernel
theorem dX0_isOffStage_7 : decode cX0_isOffStage 7 = .ok (.iload_n 1, 1) := by decide +kernel
theorem dX0_isOffStage_8 : decode cX0_isOffStage 8 = .ok (.iaload, 1) := by decide +kernel
theorem dX0_isOffStage_9 : decode cX0_isOffStage 9 = .ok (.invokestatic 38, 3) := by decide +kernel
theorem dX0_isOffStage_12 : decode cX0_isOffStage 12 = .ok (.ifCond .eq 18, 3) := by decide +kernel
theorem dX0_isOffStage_15 : decode cX0_isOffStage 15 = .ok (.aload_n 0, 1) := by decide +kernel
theorem dX0_isOffStage_16 : decode cX0_isOffStage 16 = .ok (.getfield 28, 3) := by decide +kernel
theorem dX0_isOffStage_19 : decode cX0_isOffStage 19 = .ok (.getfield 35, 3) := by decide +kernel
theorem dX0_isOffStage_22 : decode cX0_isOffStage 22 = .ok (.iload_n 1, 1) := by decide +kernel
theorem dX0_isOffStage_23 : decode cX0_isOffStage 23 = .ok (.iaload, 1) := by decide +kernel
theorem dX0_isOffStage_24 : decode cX0_isOffStage 24 = .ok (.invokestatic 38, 3) := by decide +kernel
theorem dX0_isOffStage_27 : decode cX0_isOffStage 27 = .ok (.ifCond .ne 7, 3) := by decide +kernel
theorem dX0_isOffStage_30 : decode cX0_isOffStage 30 = .ok (.iconst 1, 1) := by decide +kernel
theorem dX0_isOffStage_31 : decode cX0_isOffStage 31 = .ok (.goto 4, 3) := by decide +kernel
theorem dX0_isOffStage_34 : decode cX0_isOffStage 34 = .ok (.iconst 0, 1) := by decide +kernel
theorem dX0_isOffStage_35 : decode cX0_isOffStage 35 = .ok (.ireturn, 1) := by decide +kernel
theorem dX0_isWith_0 : decode cX0_isWith 0 = .ok (.aload_n 0, 1) := by decide +kernel
theorem dX0_isWith_1 : decode cX0_isWith 1 = .ok (.getfield 24, 3) := by decide +kernel
theorem dX0_isWith_4 : decode cX0_isWith 4 = .ok (.aload_n 1, 1) := by decide +kernel
theorem dX0_isWith_5 : decode cX0_isWith 5 = .ok (.getfield 24, 3) := by decide +kernel
theorem dX0_isWith_8 : decode cX0_isWith 8 = .ok (.iload_n 2, 1) := by decide +kernel
theorem dX0_isWith_9 : decode cX0_isWith 9 = .ok (.invokevirtual 42, 3) := by decide +kernel
theorem dX0_isWith_12 : decode cX0_isWith 12 = .ok (.ifCond .ne 22, 3) := by decide +kernel
theorem dX0_isWith_15 : decode cX0_isWith 15 = .ok (.aload_n 0, 1) := by decide +kernel
theorem dX0_isWith_16 : decode cX0_isWith 16 = .ok (.getfield 28, 3) := by decide +kernel
theorem dX0_isWith_19 : decode cX0_isWith 19 = .ok (.aload_n 1, 1) := by decide +kernel
theorem dX0_isWith_20 : decode cX0_isWith 20 = .ok (.getfield 28, 3) := by decide +kernel
theorem dX0_isWith_23 : decode cX0_isWith 23 = .ok (.iload_n 2, 1) := by decide +kernel
theorem dX0_isWith_24 : decode cX0_isWith 24 = .ok (.invokevirtual 42, 3) := by decide +kernel
theorem dX0_isWith_27 : decode cX0_isWith 27 = .ok (.ifCond .ne 7, 3) := by decide +kernel
theorem dX0_isWith_30 : decode cX0_isWith 30 = .ok (.iconst 1, 1) := by decide +kernel
theorem dX0_isWith_31 : decode cX0_isWith 31 = .ok (.goto 4, 3) := by decide +kernel
theorem dX0_isWith_34 : decode cX0_isWith 34 = .ok (.iconst 0, 1) := by decide +kernel
theorem dX0_isWith_35 : decode cX0_isWith 35 = .ok (.ireturn, 1) := by decide +kernel
theorem dX0_isBeside_0 : decode cX0_isBeside 0 = .ok (.aload_n 0, 1) := by decide +kernel
theorem dX0_isBeside_1 : decode cX0_isBeside 1 = .ok (.aload_n 1, 1) := by decide +kernel
theorem dX0_isBeside_2 : decode cX0_isBeside 2 = .ok (.iload_n 2, 1) := by decide +kernel
theorem dX0_isBeside_3 : decode cX0_isBeside 3 = .ok (.invokevirtual 46, 3) := by decide +kernel
theorem dX0_isBeside_6 : decode cX0_isBeside 6 = .ok (.ifCond .ne 45, 3) := by decide +kernel
theorem dX0_isBeside_9 : decode cX0_isBeside 9 = .ok (.aload_n 0, 1) := by decide +kernel
theorem dX0_isBeside_10 : decode cX0_isBeside 10 = .ok (.getfield 24, 3) := by decide +kernel
theorem dX0_isBeside_13 : decode cX0_isBeside 13 = .ok (.aload_n 1, 1) := by decide +kernel
theorem dX0_isBeside_14 : decode cX0_isBeside 14 = .ok (.getfield 24, 3) := by decide +kernel
theorem dX0_isBeside_17 : decode cX0_isBeside 17 = .ok (.iload_n 2, 1) := by decide +kernel
theorem dX0_isBeside_18 : decode cX0_isBeside 18 = .ok (.invokevirtual 42, 3) := by decide +kernel
theorem dX0_isBeside_21 : decode cX0_isBeside 21 = .ok (.invokestatic 50, 3) := by decide +kernel
theorem dX0_isBeside_24 : decode cX0_isBeside 24 = .ok (.iconst 1, 1) := by decide +kernel
theorem dX0_isBeside_25 : decode cX0_isBeside 25 = .ok (.if_icmp .gt 26, 3) := by decide +kernel
theorem dX0_isBeside_28 : decode cX0_isBeside 28 = .ok (.aload_n 0, 1) := by decide +kernel
theorem dX0_isBeside_29 : decode cX0_isBeside 29 = .ok (.getfield 28, 3) := by decide +kernel
theorem dX0_isBeside_32 : decode cX0_isBeside 32 = .ok (.aload_n 1, 1) := by decide +kernel
theorem dX0_isBeside_33 : decode cX0_isBeside 33 = .ok (.getfield 28, 3) := by decide +kernel
theorem dX0_isBeside_36 : decode cX0_isBeside 36 = .ok (.iload_n 2, 1) := by decide +kernel
theorem dX0_isBeside_37 : decode cX0_isBeside 37 = .ok (.invokevirtual 42, 3) := by decide +kernel
theorem dX0_isBeside_40 : decode cX0_isBeside 40 = .ok (.invokestatic 50, 3) := by decide +kernel
theorem dX0_isBeside_43 : decode cX0_isBeside 43 = .ok (.iconst 1, 1) := by decide +kernel
theorem dX0_isBeside_44 : decode cX0_isBeside 44 = .ok (.if_icmp .gt 7, 3) := by decide +kernel
theorem dX0_isBeside_47 : decode cX0_isBeside 47 = .ok (.iconst 1, 1) := by decide +kernel
theorem dX0_isBeside_48 : decode cX0_isBeside 48 = .ok (.goto 4, 3) := by decide +kernel
theorem dX0_isBeside_51 : decode cX0_isBeside 51 = .ok (.iconst 0, 1) := by decide +kernel
theorem dX0_isBeside_52 : decode cX0_isBeside 52 = .ok (.ireturn, 1) := by decide +kernel
theorem dX0_changesPlacesWith_0 : decode cX0_changesPlacesWith 0 = .ok (.aload_n 0, 1) := by decide +kernel
theorem dX0_changesPlacesWith_1 : decode cX0_changesPlacesWith 1 = .ok (.aload_n 1, 1) := by decide +kernel
theorem dX0_changesPlacesWith_2 : decode cX0_changesPlacesWith 2 = .ok (.iload_n 2, 1) := by decide +kernel
theorem dX0_changesPlacesWith_3 : decode cX0_changesPlacesWith 3 = .ok (.invokevirtual 56, 3) := by decide +kernel
theorem dX0_changesPlacesWith_6 : decode cX0_changesPlacesWith 6 = .ok (.ifCond .eq 16, 3) := by decide +kernel
theorem dX0_changesPlacesWith_9 : decode cX0_changesPlacesWith 9 = .ok (.aload_n 1, 1) := by decide +kernel
theorem dX0_changesPlacesWith_10 : decode cX0_changesPlacesWith 10 = .ok (.aload_n 0, 1) := by decide +kernel
theorem dX0_changesPlacesWith_11 : decode cX0_changesPlacesWith 11 = .ok (.iload_n 2, 1) := by decide +kernel
theorem dX0_changesPlacesWith_12 : decode cX0_changesPlacesWith 12 = .ok (.invokevirtual 56, 3) := by decide +kernel
theorem dX0_changesPlacesWith_15 : decode cX0_changesPlacesWith 15 = .ok (.ifCond .eq 7, 3) := by decide +kernel
theorem dX0_changesPlacesWith_18 : decode cX0_changesPlacesWith 18 = .ok (.iconst 1, 1) := by decide +kernel
theorem dX0_changesPlacesWith_19 : decode cX0_changesPlacesWith 19 = .ok (.goto 4, 3) := by decide +kernel
theorem dX0_changesPlacesWith_22 : decode cX0_changesPlacesWith 22 = .ok (.iconst 0, 1) := by decide +kernel
theorem dX0_changesPlacesWith_23 : decode cX0_changesPlacesWith 23 = .ok (.ireturn, 1) := by decide +kernel
theorem dX0_takesPlaceOf_0 : decode cX0_takesPlaceOf 0 = .ok (.aload_n 0, 1) := by decide +kernel
theorem dX0_takesPlaceOf_1 : decode cX0_takesPlaceOf 1 = .ok (.getfield 24, 3) := by decide +kernel
theorem dX0_takesPlaceOf_4 : decode cX0_takesPlaceOf 4 = .ok (.getfield 35, 3) := by decide +kernel
theorem dX0_takesPlaceOf_7 : decode cX0_takesPlaceOf 7 = .ok (.iload_n 2, 1) := by decide +kernel
theorem dX0_takesPlaceOf_8 : decode cX0_takesPlaceOf 8 = .ok (.iaload, 1) := by decide +kernel
theorem dX0_takesPlaceOf_9 : decode cX0_takesPlaceOf 9 = .ok (.aload_n 1, 1) := by decide +kernel
theorem dX0_takesPlaceOf_10 : decode cX0_takesPlaceOf 10 = .ok (.getfield 24, 3) := by decide +kernel
theorem dX0_takesPlaceOf_13 : decode cX0_takesPlaceOf 13 = .ok (.iload_n 2, 1) := by decide +kernel
theorem dX0_takesPlaceOf_14 : decode cX0_takesPlaceOf 14 = .ok (.invokevirtual 59, 3) := by decide +kernel
theorem dX0_takesPlaceOf_17 : decode cX0_takesPlaceOf 17 = .ok (.if_icmp .ne 27, 3) := by decide +kernel
theorem dX0_takesPlaceOf_20 : decode cX0_takesPlaceOf 20 = .ok (.aload_n 0, 1) := by decide +kernel
theorem dX0_takesPlaceOf_21 : decode cX0_takesPlaceOf 21 = .ok (.getfield 28, 3) := by decide +kernel
theorem dX0_takesPlaceOf_24 : decode cX0_takesPlaceOf 24 = .ok (.getfield 35, 3) := by decide +kernel
theorem dX0_takesPlaceOf_27 : decode cX0_takesPlaceOf 27 = .ok (.iload_n 2, 1) := by decide +kernel
theorem dX0_takesPlaceOf_28 : decode cX0_takesPlaceOf 28 = .ok (.iaload, 1) := by decide +kernel
theorem dX0_takesPlaceOf_29 : decode cX0_takesPlaceOf 29 = .ok (.aload_n 1, 1) := by decide +kernel
theorem dX0_takesPlaceOf_30 : decode cX0_takesPlaceOf 30 = .ok (.getfield 28, 3) := by decide +kernel
theorem dX0_takesPlaceOf_33 : decode cX0_takesPlaceOf 33 = .ok (.iload_n 2, 1) := by decide +kernel
theorem dX0_takesPlaceOf_34 : decode cX0_takesPlaceOf 34 = .ok (.invokevirtual 59, 3) := by decide +kernel
theorem dX0_takesPlaceOf_37 : decode cX0_takesPlaceOf 37 = .ok (.if_icmp .ne 7, 3) := by decide +kernel
theorem dX0_takesPlaceOf_40 : decode cX0_takesPlaceOf 40 = .ok (.iconst 1, 1) := by decide +kernel
theorem dX0_takesPlaceOf_41 : decode cX0_takesPlaceOf 41 = .ok (.goto 4, 3) := by decide +kernel
theorem dX0_takesPlaceOf_44 : decode cX0_takesPlaceOf 44 = .ok (.iconst 0, 1) := by decide +kernel
theorem dX0_takesPlaceOf_45 : decode cX0_takesPlaceOf 45 = .ok (.ireturn, 1) := by decide +kernel
theorem dX0_canVisit_0 : decode cX0_canVisit 0 = .ok (.aload_n 0, 1) := by decide +kernel
theorem dX0_canVisit_1 : decode cX0_canVisit 1 = .ok (.getfield 24, 3) := by decide +kernel
theorem dX0_canVisit_4 : decode cX0_canVisit 4 = .ok (.aload_n 1, 1) := by decide +kernel
theorem dX0_canVisit_5 : decode cX0_canVisit 5 = .ok (.getfield 24, 3) := by decide +kernel
theorem dX0_canVisit_8 : decode cX0_canVisit 8 = .ok (.iload_n 2, 1) := by decide +kernel
theorem dX0_canVisit_9 : decode cX0_canVisit 9 = .ok (.invokevirtual 62, 3) := by decide +kernel
theorem dX0_canVisit_12 : decode cX0_canVisit 12 = .ok (.ifCond .eq 22, 3) := by decide +kernel
theorem dX0_canVisit_15 : decode cX0_canVisit 15 = .ok (.aload_n 0, 1) := by decide +kernel
theorem dX0_canVisit_16 : decode cX0_canVisit 16 = .ok (.getfield 28, 3) := by decide +kernel
theorem dX0_canVisit_19 : decode cX0_canVisit 19 = .ok (.aload_n 1, 1) := by decide +kernel
theorem dX0_canVisit_20 : decode cX0_canVisit 20 = .ok (.getfield 28, 3) := by decide +kernel
theorem dX0_canVisit_23 : decode cX0_canVisit 23 = .ok (.iload_n 2, 1) := by decide +kernel
theorem dX0_canVisit_24 : decode cX0_canVisit 24 = .ok (.invokevirtual 62, 3) := by decide +kernel
theorem dX0_canVisit_27 : decode cX0_canVisit 27 = .ok (.ifCond .eq 7, 3) := by decide +kernel
theorem dX0_canVisit_30 : decode cX0_canVisit 30 = .ok (.iconst 1, 1) := by decide +kernel
theorem dX0_canVisit_31 : decode cX0_canVisit 31 = .ok (.goto 4, 3) := by decide +kernel
theorem dX0_canVisit_34 : decode cX0_canVisit 34 = .ok (.iconst 0, 1) := by decide +kernel
theorem dX0_canVisit_35 : decode cX0_canVisit 35 = .ok (.ireturn, 1) := by decide +kernel
theorem dX0_visit_0 : decode cX0_visit 0 = .ok (.aload_n 0, 1) := by decide +kernel
theorem dX0_visit_1 : decode cX0_visit 1 = .ok (.getfield 24, 3) := by decide +kernel
theorem dX0_visit_4 : decode cX0_visit 4 = .ok (.aload_n 1, 1) := by decide +kernel
theorem dX0_visit_5 : decode cX0_visit 5 = .ok (.getfield 24, 3) := by decide +kernel
theorem dX0_visit_8 : decode cX0_visit 8 = .ok (.iload_n 2, 1) := by decide +kernel
theorem dX0_visit_9 : decode cX0_visit 9 = .ok (.invokevirtual 66, 3) := by decide +kernel
theorem dX0_visit_12 : decode cX0_visit 12 = .ok (.aload_n 0, 1) := by decide +kernel
theorem dX0_visit_13 : decode cX0_visit 13 = .ok (.getfield 28, 3) := by decide +kernel
theorem dX0_visit_16 : decode cX0_visit 16 = .ok (.aload_n 1, 1) := by decide +kernel
theorem dX0_visit_17 : decode cX0_visit 17 = .ok (.getfield 28, 3) := by decide +kernel
theorem dX0_visit_20 : decode cX0_visit 20 = .ok (.iload_n 2, 1) := by decide +kernel
theorem dX0_visit_21 : decode cX0_visit 21 = .ok (.invokevirtual 66, 3) := by decide +kernel
theorem dX0_visit_24 : decode cX0_visit 24 = .ok (.return_, 1) := by decide +kernel
theorem dX1_init_0 : decode cX1_init 0 = .ok (.aload_n 0, 1) := by decide +kernel
theorem dX1_init_1 : decode cX1_init 1 = .ok (.invokespecial 1, 3) := by decide +kernel
theorem dX1_init_4 : decode cX1_init 4 = .ok (.aload_n 0, 1) := by decide +kernel
theorem dX1_init_5 : decode cX1_init 5 = .ok (.iconst 0, 1) := by decide +kernel
theorem dX1_init_6 : decode cX1_init 6 = .ok (.putfield 7, 3) := by decide +kernel
theorem dX1_init_9 : decode cX1_init 9 = .ok (.aload_n 0, 1) := by decide +kernel
theorem dX1_init_10 : decode cX1_init 10 = .ok (.iload_n 1, 1) := by decide +kernel
theorem dX1_init_11 : decode cX1_init 11 = .ok (.putfield 13, 3) := by decide +kernel
theorem dX1_init_14 : decode cX1_init 14 = .ok (.aload_n 0, 1) := by decide +kernel
theorem dX1_init_15 : decode cX1_init 15 = .ok (.iload_n 2, 1) := by decide +kernel
theorem dX1_init_16 : decode cX1_init 16 = .ok (.putfield 17, 3) := by decide +kernel
theorem dX1_init_19 : decode cX1_init 19 = .ok (.aload_n 0, 1) := by decide +kernel
theorem dX1_init_20 : decode cX1_init 20 = .ok (.iload_n 3, 1) := by decide +kernel
theorem dX1_init_21 : decode cX1_init 21 = .ok (.putfield 20, 3) := by decide +kernel
theorem dX1_init_24 : decode cX1_init 24 = .ok (.aload_n 0, 1) := by decide +kernel
theorem dX1_init_25 : decode cX1_init 25 = .ok (.iload 4, 2) := by decide +kernel
theorem dX1_init_27 : decode cX1_init 27 = .ok (.putfield 23, 3) := by decide +kernel
theorem dX1_init_30 : decode cX1_init 30 = .ok (.return_, 1) := by decide +kernel
theorem dX1_isBy_0 : decode cX1_isBy 0 = .ok (.aload_n 0, 1) := by decide +kernel
theorem dX1_isBy_1 : decode cX1_isBy 1 = .ok (.getfield 20, 3) := by decide +kernel
theorem dX1_isBy_4 : decode cX1_isBy 4 = .ok (.iload_n 1, 1) := by decide +kernel
theorem dX1_isBy_5 : decode cX1_isBy 5 = .ok (.if_icmp .eq 11, 3) := by decide +kernel
theorem dX1_isBy_8 : decode cX1_isBy 8 = .ok (.aload_n 0, 1) := by decide +kernel
theorem dX1_isBy_9 : decode cX1_isBy 9 = .ok (.getfield 23, 3) := by decide +kernel
theorem dX1_isBy_12 : decode cX1_isBy 12 = .ok (.iload_n 1, 1) := by decide +kernel
theorem dX1_isBy_13 : decode cX1_isBy 13 = .ok (.if_icmp .ne 7, 3) := by decide +kernel
theorem dX1_isBy_16 : decode cX1_isBy 16 = .ok (.iconst 1, 1) := by decide +kernel
theorem dX1_isBy_17 : decode cX1_isBy 17 = .ok (.goto 4, 3) := by decide +kernel
theorem dX1_isBy_20 : decode cX1_isBy 20 = .ok (.iconst 0, 1) := by decide +kernel
theorem dX1_isBy_21 : decode cX1_isBy 21 = .ok (.ireturn, 1) := by decide +kernel
theorem dX1_has_0 : decode cX1_has 0 = .ok (.aload_n 0, 1) := by decide +kernel
theorem dX1_has_1 : decode cX1_has 1 = .ok (.getfield 17, 3) := by decide +kernel
theorem dX1_has_4 : decode cX1_has 4 = .ok (.iload_n 1, 1) := by decide +kernel
theorem dX1_has_5 : decode cX1_has 5 = .ok (.if_icmp .eq 11, 3) := by decide +kernel
theorem dX1_has_8 : decode cX1_has 8 = .ok (.aload_n 0, 1) := by decide +kernel
theorem dX1_has_9 : decode cX1_has 9 = .ok (.iload_n 1, 1) := by decide +kernel
theorem dX1_has_10 : decode cX1_has 10 = .ok (.invokevirtual 26, 3) := by decide +kernel
theorem dX1_has_13 : decode cX1_has 13 = .ok (.ifCond .eq 7, 3) := by decide +kernel
theorem dX1_has_16 : decode cX1_has 16 = .ok (.iconst 1, 1) := by decide +kernel
theorem dX1_has_17 : decode cX1_has 17 = .ok (.goto 4, 3) := by decide +kernel
theorem dX1_has_20 : decode cX1_has 20 = .ok (.iconst 0, 1) := by decide +kernel
theorem dX1_has_21 : decode cX1_has 21 = .ok (.ireturn, 1) := by decide +kernel
theorem dX1_replace_0 : decode cX1_replace 0 = .ok (.aload_n 0, 1) := by decide +kernel
theorem dX1_replace_1 : decode cX1_replace 1 = .ok (.getfield 20, 3) := by decide +kernel
theorem dX1_replace_4 : decode cX1_replace 4 = .ok (.iload_n 1, 1) := by decide +kernel
theorem dX1_replace_5 : decode cX1_replace 5 = .ok (.if_icmp .ne 11, 3) := by decide +kernel
theorem dX1_replace_8 : decode cX1_replace 8 = .ok (.aload_n 0, 1) := by decide +kernel
theorem dX1_replace_9 : decode cX1_replace 9 = .ok (.iload_n 2, 1) := by decide +kernel
theorem dX1_replace_10 : decode cX1_replace 10 = .ok (.putfield 20, 3) := by decide +kernel
theorem dX1_replace_13 : decode cX1_replace 13 = .ok (.goto 8, 3) := by decide +kernel
theorem dX1_replace_16 : decode cX1_replace 16 = .ok (.aload_n 0, 1) := by decide +kernel
theorem dX1_replace_17 : decode cX1_replace 17 = .ok (.iload_n 2, 1) := by decide +kernel
theorem dX1_replace_18 : decode cX1_replace 18 = .ok (.putfield 23, 3) := by decide +kernel
theorem dX1_replace_21 : decode cX1_replace 21 = .ok (.return_, 1) := by decide +kernel
theorem dX2_init_0 : decode cX2_init 0 = .ok (.aload_n 0, 1) := by decide +kernel
theorem dX2_init_1 : decode cX2_init 1 = .ok (.invokespecial 3, 3) := by decide +kernel
theorem dX2_init_4 : decode cX2_init 4 = .ok (.aload_n 0, 1) := by decide +kernel
theorem dX2_init_5 : decode cX2_init 5 = .ok (.bipush 64, 2) := by decide +kernel
theorem dX2_init_7 : decode cX2_init 7 = .ok (.newarray .int, 2) := by decide +kernel
theorem dX2_init_9 : decode cX2_init 9 = .ok (.putfield 9, 3) := by decide +kernel
theorem dX2_init_12 : decode cX2_init 12 = .ok (.aload_n 0, 1) := by decide +kernel
theorem dX2_init_13 : decode cX2_init 13 = .ok (.bipush 64, 2) := by decide +kernel
theorem dX2_init_15 : decode cX2_init 15 = .ok (.newarray .int, 2) := by decide +kernel
theorem dX2_init_17 : decode cX2_init 17 = .ok (.putfield 15, 3) := by decide +kernel
theorem dX2_init_20 : decode cX2_init 20 = .ok (.aload_n 0, 1) := by decide +kernel
theorem dX2_init_21 : decode cX2_init 21 = .ok (.iload_n 1, 1) := by decide +kernel
theorem dX2_init_22 : decode cX2_init 22 = .ok (.putfield 18, 3) := by decide +kernel
theorem dX2_init_25 : decode cX2_init 25 = .ok (.aload_n 0, 1) := by decide +kernel
theorem dX2_init_26 : decode cX2_init 26 = .ok (.getfield 15, 3) := by decide +kernel
theorem dX2_init_29 : decode cX2_init 29 = .ok (.iload_n 1, 1) := by decide +kernel
theorem dX2_init_30 : decode cX2_init 30 = .ok (.invokestatic 22, 3) := by decide +kernel
theorem dX2_init_33 : decode cX2_init 33 = .ok (.return_, 1) := by decide +kernel
theorem dX2_write_0 : decode cX2_write 0 = .ok (.iload_n 2, 1) := by decide +kernel
theorem dX2_write_1 : decode cX2_write 1 = .ok (.aload_n 0, 1) := by decide +kernel
theorem dX2_write_2 : decode cX2_write 2 = .ok (.getfield 9, 3) := by decide +kernel
theorem dX2_write_5 : decode cX2_write 5 = .ok (.iload_n 1, 1) := by decide +kernel
theorem dX2_write_6 : decode cX2_write 6 = .ok (.iaload, 1) := by decide +kernel
theorem dX2_write_7 : decode cX2_write 7 = .ok (.isub, 1) := by decide +kernel
theorem dX2_write_8 : decode cX2_write 8 = .ok (.istore_n 3, 1) := by decide +kernel
theorem dX2_write_9 : decode cX2_write 9 = .ok (.aload_n 0, 1) := by decide +kernel
theorem dX2_write_10 : decode cX2_write 10 = .ok (.getfield 9, 3) := by decide +kernel
theorem dX2_write_13 : decode cX2_write 13 = .ok (.iload_n 1, 1) := by decide +kernel
theorem dX2_write_14 : decode cX2_write 14 = .ok (.iload_n 2, 1) := by decide +kernel
theorem dX2_write_15 : decode cX2_write 15 = .ok (.iastore, 1) := by decide +kernel
theorem dX2_write_16 : decode cX2_write 16 = .ok (.iload_n 1, 1) := by decide +kernel
theorem dX2_write_17 : decode cX2_write 17 = .ok (.istore 4, 2) := by decide +kernel
theorem dX2_write_19 : decode cX2_write 19 = .ok (.iload 4, 2) := by decide +kernel
theorem dX2_write_21 : decode cX2_write 21 = .ok (.bipush 64, 2) := by decide +kernel
theorem dX2_write_23 : decode cX2_write 23 = .ok (.if_icmp .ge 20, 3) := by decide +kernel
theorem dX2_write_26 : decode cX2_write 26 = .ok (.aload_n 0, 1) := by decide +kernel
theorem dX2_write_27 : decode cX2_write 27 = .ok (.getfield 15, 3) := by decide +kernel
theorem dX2_write_30 : decode cX2_write 30 = .ok (.iload 4, 2) := by decide +kernel
theorem dX2_write_32 : decode cX2_write 32 = .ok (.dup2, 1) := by decide +kernel
theorem dX2_write_33 : decode cX2_write 33 = .ok (.iaload, 1) := by decide +kernel
theorem dX2_write_34 : decode cX2_write 34 = .ok (.iload_n 3, 1) := by decide +kernel
theorem dX2_write_35 : decode cX2_write 35 = .ok (.iadd, 1) := by decide +kernel
theorem dX2_write_36 : decode cX2_write 36 = .ok (.iastore, 1) := by decide +kernel
theorem dX2_write_37 : decode cX2_write 37 = .ok (.iinc 4 1, 3) := by decide +kernel
theorem dX2_write_40 : decode cX2_write 40 = .ok (.goto (-21), 3) := by decide +kernel
theorem dX2_write_43 : decode cX2_write 43 = .ok (.return_, 1) := by decide +kernel
theorem dX2_placeAheadOf_0 : decode cX2_placeAheadOf 0 = .ok (.iload_n 1, 1) := by decide +kernel
theorem dX2_placeAheadOf_1 : decode cX2_placeAheadOf 1 = .ok (.ifCond .le 14, 3) := by decide +kernel
theorem dX2_placeAheadOf_4 : decode cX2_placeAheadOf 4 = .ok (.aload_n 0, 1) := by decide +kernel
theorem dX2_placeAheadOf_5 : decode cX2_placeAheadOf 5 = .ok (.getfield 15, 3) := by decide +kernel
theorem dX2_placeAheadOf_8 : decode cX2_placeAheadOf 8 = .ok (.iload_n 1, 1) := by decide +kernel
theorem dX2_placeAheadOf_9 : decode cX2_placeAheadOf 9 = .ok (.iconst 1, 1) := by decide +kernel
theorem dX2_placeAheadOf_10 : decode cX2_placeAheadOf 10 = .ok (.isub, 1) := by decide +kernel
theorem dX2_placeAheadOf_11 : decode cX2_placeAheadOf 11 = .ok (.iaload, 1) := by decide +kernel
theorem dX2_placeAheadOf_12 : decode cX2_placeAheadOf 12 = .ok (.goto 7, 3) := by decide +kernel
theorem dX2_placeAheadOf_15 : decode cX2_placeAheadOf 15 = .ok (.aload_n 0, 1) := by decide +kernel
theorem dX2_placeAheadOf_16 : decode cX2_placeAheadOf 16 = .ok (.getfield 18, 3) := by decide +kernel
theorem dX2_placeAheadOf_19 : decode cX2_placeAheadOf 19 = .ok (.ireturn, 1) := by decide +kernel
theorem dX2_followedTo_0 : decode cX2_followedTo 0 = .ok (.aload_n 0, 1) := by decide +kernel
theorem dX2_followedTo_1 : decode cX2_followedTo 1 = .ok (.getfield 18, 3) := by decide +kernel
theorem dX2_followedTo_4 : decode cX2_followedTo 4 = .ok (.istore_n 2, 1) := by decide +kernel
theorem dX2_followedTo_5 : decode cX2_followedTo 5 = .ok (.iconst 0, 1) := by decide +kernel
theorem dX2_followedTo_6 : decode cX2_followedTo 6 = .ok (.istore_n 3, 1) := by decide +kernel
theorem dX2_followedTo_7 : decode cX2_followedTo 7 = .ok (.iload_n 3, 1) := by decide +kernel
theorem dX2_followedTo_8 : decode cX2_followedTo 8 = .ok (.iload_n 1, 1) := by decide +kernel
theorem dX2_followedTo_9 : decode cX2_followedTo 9 = .ok (.if_icmp .gt 18, 3) := by decide +kernel
theorem dX2_followedTo_12 : decode cX2_followedTo 12 = .ok (.iload_n 2, 1) := by decide +kernel
theorem dX2_followedTo_13 : decode cX2_followedTo 13 = .ok (.aload_n 0, 1) := by decide +kernel
theorem dX2_followedTo_14 : decode cX2_followedTo 14 = .ok (.getfield 9, 3) := by decide +kernel
theorem dX2_followedTo_17 : decode cX2_followedTo 17 = .ok (.iload_n 3, 1) := by decide +kernel
theorem dX2_followedTo_18 : decode cX2_followedTo 18 = .ok (.iaload, 1) := by decide +kernel
theorem dX2_followedTo_19 : decode cX2_followedTo 19 = .ok (.iadd, 1) := by decide +kernel
theorem dX2_followedTo_20 : decode cX2_followedTo 20 = .ok (.istore_n 2, 1) := by decide +kernel
theorem dX2_followedTo_21 : decode cX2_followedTo 21 = .ok (.iinc 3 1, 3) := by decide +kernel
theorem dX2_followedTo_24 : decode cX2_followedTo 24 = .ok (.goto (-17), 3) := by decide +kernel
theorem dX2_followedTo_27 : decode cX2_followedTo 27 = .ok (.iload_n 2, 1) := by decide +kernel
theorem dX2_followedTo_28 : decode cX2_followedTo 28 = .ok (.ireturn, 1) := by decide +kernel
theorem dX2_wayIn_0 : decode cX2_wayIn 0 = .ok (.iconst 0, 1) := by decide +kernel
theorem dX2_wayIn_1 : decode cX2_wayIn 1 = .ok (.istore_n 3, 1) := by decide +kernel
theorem dX2_wayIn_2 : decode cX2_wayIn 2 = .ok (.iload_n 1, 1) := by decide +kernel
theorem dX2_wayIn_3 : decode cX2_wayIn 3 = .ok (.istore 4, 2) := by decide +kernel
theorem dX2_wayIn_5 : decode cX2_wayIn 5 = .ok (.iload 4, 2) := by decide +kernel
theorem dX2_wayIn_7 : decode cX2_wayIn 7 = .ok (.iload_n 2, 1) := by decide +kernel
theorem dX2_wayIn_8 : decode cX2_wayIn 8 = .ok (.if_icmp .gt 22, 3) := by decide +kernel
theorem dX2_wayIn_11 : decode cX2_wayIn 11 = .ok (.iload_n 3, 1) := by decide +kernel
theorem dX2_wayIn_12 : decode cX2_wayIn 12 = .ok (.aload_n 0, 1) := by decide +kernel
theorem dX2_wayIn_13 : decode cX2_wayIn 13 = .ok (.getfield 9, 3) := by decide +kernel
theorem dX2_wayIn_16 : decode cX2_wayIn 16 = .ok (.iload 4, 2) := by decide +kernel
theorem dX2_wayIn_18 : decode cX2_wayIn 18 = .ok (.iaload, 1) := by decide +kernel
theorem dX2_wayIn_19 : decode cX2_wayIn 19 = .ok (.invokestatic 28, 3) := by decide +kernel
theorem dX2_wayIn_22 : decode cX2_wayIn 22 = .ok (.iadd, 1) := by decide +kernel
theorem dX2_wayIn_23 : decode cX2_wayIn 23 = .ok (.istore_n 3, 1) := by decide +kernel
theorem dX2_wayIn_24 : decode cX2_wayIn 24 = .ok (.iinc 4 1, 3) := by decide +kernel
theorem dX2_wayIn_27 : decode cX2_wayIn 27 = .ok (.goto (-22), 3) := by decide +kernel
theorem dX2_wayIn_30 : decode cX2_wayIn 30 = .ok (.iload_n 3, 1) := by decide +kernel
theorem dX2_wayIn_31 : decode cX2_wayIn 31 = .ok (.ireturn, 1) := by decide +kernel
theorem dX2_wayTo_0 : decode cX2_wayTo 0 = .ok (.aload_n 1, 1) := by decide +kernel
theorem dX2_wayTo_1 : decode cX2_wayTo 1 = .ok (.getfield 15, 3) := by decide +kernel
theorem dX2_wayTo_4 : decode cX2_wayTo 4 = .ok (.iload_n 2, 1) := by decide +kernel
theorem dX2_wayTo_5 : decode cX2_wayTo 5 = .ok (.iaload, 1) := by decide +kernel
theorem dX2_wayTo_6 : decode cX2_wayTo 6 = .ok (.aload_n 0, 1) := by decide +kernel
theorem dX2_wayTo_7 : decode cX2_wayTo 7 = .ok (.getfield 15, 3) := by decide +kernel
theorem dX2_wayTo_10 : decode cX2_wayTo 10 = .ok (.iload_n 2, 1) := by decide +kernel
theorem dX2_wayTo_11 : decode cX2_wayTo 11 = .ok (.iaload, 1) := by decide +kernel
theorem dX2_wayTo_12 : decode cX2_wayTo 12 = .ok (.isub, 1) := by decide +kernel
theorem dX2_wayTo_13 : decode cX2_wayTo 13 = .ok (.ireturn, 1) := by decide +kernel
theorem dX2_canVisit_0 : decode cX2_canVisit 0 = .ok (.iload_n 2, 1) := by decide +kernel
theorem dX2_canVisit_1 : decode cX2_canVisit 1 = .ok (.bipush 63, 2) := by decide +kernel
theorem dX2_canVisit_3 : decode cX2_canVisit 3 = .ok (.if_icmp .lt 5, 3) := by decide +kernel
theorem dX2_canVisit_6 : decode cX2_canVisit 6 = .ok (.iconst 0, 1) := by decide +kernel
theorem dX2_canVisit_7 : decode cX2_canVisit 7 = .ok (.ireturn, 1) := by decide +kernel
theorem dX2_canVisit_8 : decode cX2_canVisit 8 = .ok (.aload_n 0, 1) := by decide +kernel
theorem dX2_canVisit_9 : decode cX2_canVisit 9 = .ok (.aload_n 1, 1) := by decide +kernel
theorem dX2_canVisit_10 : decode cX2_canVisit 10 = .ok (.iload_n 2, 1) := by decide +kernel
theorem dX2_canVisit_11 : decode cX2_canVisit 11 = .ok (.invokevirtual 34, 3) := by decide +kernel
theorem dX2_canVisit_14 : decode cX2_canVisit 14 = .ok (.istore_n 3, 1) := by decide +kernel
theorem dX2_canVisit_15 : decode cX2_canVisit 15 = .ok (.iload_n 3, 1) := by decide +kernel
theorem dX2_canVisit_16 : decode cX2_canVisit 16 = .ok (.invokestatic 38, 3) := by decide +kernel
theorem dX2_canVisit_19 : decode cX2_canVisit 19 = .ok (.ifCond .eq 37, 3) := by decide +kernel
theorem dX2_canVisit_22 : decode cX2_canVisit 22 = .ok (.aload_n 0, 1) := by decide +kernel
theorem dX2_canVisit_23 : decode cX2_canVisit 23 = .ok (.getfield 9, 3) := by decide +kernel
theorem dX2_canVisit_26 : decode cX2_canVisit 26 = .ok (.iload_n 2, 1) := by decide +kernel
theorem dX2_canVisit_27 : decode cX2_canVisit 27 = .ok (.iaload, 1) := by decide +kernel
theorem dX2_canVisit_28 : decode cX2_canVisit 28 = .ok (.iload_n 3, 1) := by decide +kernel
theorem dX2_canVisit_29 : decode cX2_canVisit 29 = .ok (.iadd, 1) := by decide +kernel
theorem dX2_canVisit_30 : decode cX2_canVisit 30 = .ok (.invokestatic 38, 3) := by decide +kernel
theorem dX2_canVisit_33 : decode cX2_canVisit 33 = .ok (.ifCond .eq 23, 3) := by decide +kernel
theorem dX2_canVisit_36 : decode cX2_canVisit 36 = .ok (.aload_n 0, 1) := by decide +kernel
theorem dX2_canVisit_37 : decode cX2_canVisit 37 = .ok (.getfield 9, 3) := by decide +kernel
theorem dX2_canVisit_40 : decode cX2_canVisit 40 = .ok (.iload_n 2, 1) := by decide +kernel
theorem dX2_canVisit_41 : decode cX2_canVisit 41 = .ok (.iconst 1, 1) := by decide +kernel
theorem dX2_canVisit_42 : decode cX2_canVisit 42 = .ok (.iadd, 1) := by decide +kernel
theorem dX2_canVisit_43 : decode cX2_canVisit 43 = .ok (.iaload, 1) := by decide +kernel
theorem dX2_canVisit_44 : decode cX2_canVisit 44 = .ok (.iload_n 3, 1) := by decide +kernel
theorem dX2_canVisit_45 : decode cX2_canVisit 45 = .ok (.isub, 1) := by decide +kernel
theorem dX2_canVisit_46 : decode cX2_canVisit 46 = .ok (.invokestatic 38, 3) := by decide +kernel
theorem dX2_canVisit_49 : decode cX2_canVisit 49 = .ok (.ifCond .eq 7, 3) := by decide +kernel
theorem dX2_canVisit_52 : decode cX2_canVisit 52 = .ok (.iconst 1, 1) := by decide +kernel
theorem dX2_canVisit_53 : decode cX2_canVisit 53 = .ok (.goto 4, 3) := by decide +kernel
theorem dX2_canVisit_56 : decode cX2_canVisit 56 = .ok (.iconst 0, 1) := by decide +kernel
theorem dX2_canVisit_57 : decode cX2_canVisit 57 = .ok (.ireturn, 1) := by decide +kernel
theorem dX2_visit_0 : decode cX2_visit 0 = .ok (.aload_n 0, 1) := by decide +kernel
theorem dX2_visit_1 : decode cX2_visit 1 = .ok (.aload_n 1, 1) := by decide +kernel
theorem dX2_visit_2 : decode cX2_visit 2 = .ok (.iload_n 2, 1) := by decide +kernel
theorem dX2_visit_3 : decode cX2_visit 3 = .ok (.invokevirtual 34, 3) := by decide +kernel
theorem dX2_visit_6 : decode cX2_visit 6 = .ok (.istore_n 3, 1) := by decide +kernel
theorem dX2_visit_7 : decode cX2_visit 7 = .ok (.aload_n 0, 1) := by decide +kernel
theorem dX2_visit_8 : decode cX2_visit 8 = .ok (.iload_n 2, 1) := by decide +kernel
theorem dX2_visit_9 : decode cX2_visit 9 = .ok (.aload_n 0, 1) := by decide +kernel
theorem dX2_visit_10 : decode cX2_visit 10 = .ok (.getfield 9, 3) := by decide +kernel
theorem dX2_visit_13 : decode cX2_visit 13 = .ok (.iload_n 2, 1) := by decide +kernel
theorem dX2_visit_14 : decode cX2_visit 14 = .ok (.iaload, 1) := by decide +kernel
theorem dX2_visit_15 : decode cX2_visit 15 = .ok (.iload_n 3, 1) := by decide +kernel
theorem dX2_visit_16 : decode cX2_visit 16 = .ok (.iadd, 1) := by decide +kernel
theorem dX2_visit_17 : decode cX2_visit 17 = .ok (.invokevirtual 42, 3) := by decide +kernel
theorem dX2_visit_20 : decode cX2_visit 20 = .ok (.aload_n 0, 1) := by decide +kernel
theorem dX2_visit_21 : decode cX2_visit 21 = .ok (.iload_n 2, 1) := by decide +kernel
theorem dX2_visit_22 : decode cX2_visit 22 = .ok (.iconst 1, 1) := by decide +kernel
theorem dX2_visit_23 : decode cX2_visit 23 = .ok (.iadd, 1) := by decide +kernel
theorem dX2_visit_24 : decode cX2_visit 24 = .ok (.aload_n 0, 1) := by decide +kernel
theorem dX2_visit_25 : decode cX2_visit 25 = .ok (.getfield 9, 3) := by decide +kernel
theorem dX2_visit_28 : decode cX2_visit 28 = .ok (.iload_n 2, 1) := by decide +kernel
theorem dX2_visit_29 : decode cX2_visit 29 = .ok (.iconst 1, 1) := by decide +kernel
theorem dX2_visit_30 : decode cX2_visit 30 = .ok (.iadd, 1) := by decide +kernel
theorem dX2_visit_31 : decode cX2_visit 31 = .ok (.iaload, 1) := by decide +kernel
theorem dX2_visit_32 : decode cX2_visit 32 = .ok (.iload_n 3, 1) := by decide +kernel
theorem dX2_visit_33 : decode cX2_visit 33 = .ok (.isub, 1) := by decide +kernel
theorem dX2_visit_34 : decode cX2_visit 34 = .ok (.invokevirtual 42, 3) := by decide +kernel
theorem dX2_visit_37 : decode cX2_visit 37 = .ok (.return_, 1) := by decide +kernel
theorem dX3_init_0 : decode cX3_init 0 = .ok (.aload_n 0, 1) := by decide +kernel
theorem dX3_init_1 : decode cX3_init 1 = .ok (.invokespecial 1, 3) := by decide +kernel
theorem dX3_init_4 : decode cX3_init 4 = .ok (.aload_n 0, 1) := by decide +kernel
theorem dX3_init_5 : decode cX3_init 5 = .ok (.new 7, 3) := by decide +kernel
theorem dX3_init_8 : decode cX3_init 8 = .ok (.dup, 1) := by decide +kernel
theorem dX3_init_9 : decode cX3_init 9 = .ok (.invokespecial 9, 3) := by decide +kernel
theorem dX3_init_12 : decode cX3_init 12 = .ok (.putfield 10, 3) := by decide +kernel
theorem dX3_init_15 : decode cX3_init 15 = .ok (.aload_n 0, 1) := by decide +kernel
theorem dX3_init_16 : decode cX3_init 16 = .ok (.new 7, 3) := by decide +kernel
theorem dX3_init_19 : decode cX3_init 19 = .ok (.dup, 1) := by decide +kernel
theorem dX3_init_20 : decode cX3_init 20 = .ok (.invokespecial 9, 3) := by decide +kernel
theorem dX3_init_23 : decode cX3_init 23 = .ok (.putfield 16, 3) := by decide +kernel
theorem dX3_init_26 : decode cX3_init 26 = .ok (.aload_n 0, 1) := by decide +kernel
theorem dX3_init_27 : decode cX3_init 27 = .ok (.bipush 64, 2) := by decide +kernel
theorem dX3_init_29 : decode cX3_init 29 = .ok (.newarray .int, 2) := by decide +kernel
theorem dX3_init_31 : decode cX3_init 31 = .ok (.putfield 19, 3) := by decide +kernel
theorem dX3_init_34 : decode cX3_init 34 = .ok (.aload_n 0, 1) := by decide +kernel
theorem dX3_init_35 : decode cX3_init 35 = .ok (.iconst 3, 1) := by decide +kernel
theorem dX3_init_36 : decode cX3_init 36 = .ok (.bipush 13, 2) := by decide +kernel
theorem dX3_init_38 : decode cX3_init 38 = .ok (.multianewarray 23 2, 4) := by decide +kernel
theorem dX3_init_42 : decode cX3_init 42 = .ok (.putfield 25, 3) := by decide +kernel
theorem dX3_init_45 : decode cX3_init 45 = .ok (.aload_n 0, 1) := by decide +kernel
theorem dX3_init_46 : decode cX3_init 46 = .ok (.iconst 0, 1) := by decide +kernel
theorem dX3_init_47 : decode cX3_init 47 = .ok (.putfield 28, 3) := by decide +kernel
theorem dX3_init_50 : decode cX3_init 50 = .ok (.aload_n 0, 1) := by decide +kernel
theorem dX3_init_51 : decode cX3_init 51 = .ok (.getfield 19, 3) := by decide +kernel
theorem dX3_init_54 : decode cX3_init 54 = .ok (.iconst 0, 1) := by decide +kernel
theorem dX3_init_55 : decode cX3_init 55 = .ok (.sipush 500, 3) := by decide +kernel
theorem dX3_init_58 : decode cX3_init 58 = .ok (.iastore, 1) := by decide +kernel
theorem dX3_init_59 : decode cX3_init 59 = .ok (.aload_n 0, 1) := by decide +kernel
theorem dX3_init_60 : decode cX3_init 60 = .ok (.invokevirtual 32, 3) := by decide +kernel
theorem dX3_init_63 : decode cX3_init 63 = .ok (.return_, 1) := by decide +kernel
theorem dX3_dancer_0 : decode cX3_dancer 0 = .ok (.iload_n 1, 1) := by decide +kernel
theorem dX3_dancer_1 : decode cX3_dancer 1 = .ok (.invokestatic 35, 3) := by decide +kernel
theorem dX3_dancer_4 : decode cX3_dancer 4 = .ok (.ifCond .eq 10, 3) := by decide +kernel
theorem dX3_dancer_7 : decode cX3_dancer 7 = .ok (.iload_n 2, 1) := by decide +kernel
theorem dX3_dancer_8 : decode cX3_dancer 8 = .ok (.invokestatic 35, 3) := by decide +kernel
theorem dX3_dancer_11 : decode cX3_dancer 11 = .ok (.ifCond .ne 13, 3) := by decide +kernel
theorem dX3_dancer_14 : decode cX3_dancer 14 = .ok (.new 39, 3) := by decide +kernel
theorem dX3_dancer_17 : decode cX3_dancer 17 = .ok (.dup, 1) := by decide +kernel
theorem dX3_dancer_18 : decode cX3_dancer 18 = .ok (.ldc 41, 2) := by decide +kernel
theorem dX3_dancer_20 : decode cX3_dancer 20 = .ok (.invokespecial 43, 3) := by decide +kernel
theorem dX3_dancer_23 : decode cX3_dancer 23 = .ok (.athrow, 1) := by decide +kernel
theorem dX3_dancer_24 : decode cX3_dancer 24 = .ok (.aload_n 0, 1) := by decide +kernel
theorem dX3_dancer_25 : decode cX3_dancer 25 = .ok (.getfield 10, 3) := by decide +kernel
theorem dX3_dancer_28 : decode cX3_dancer 28 = .ok (.invokevirtual 46, 3) := by decide +kernel
theorem dX3_dancer_31 : decode cX3_dancer 31 = .ok (.bipush 8, 2) := by decide +kernel
theorem dX3_dancer_33 : decode cX3_dancer 33 = .ok (.if_icmp .lt 13, 3) := by decide +kernel
theorem dX3_dancer_36 : decode cX3_dancer 36 = .ok (.new 50, 3) := by decide +kernel
theorem dX3_dancer_39 : decode cX3_dancer 39 = .ok (.dup, 1) := by decide +kernel
theorem dX3_dancer_40 : decode cX3_dancer 40 = .ok (.ldc 52, 2) := by decide +kernel
theorem dX3_dancer_42 : decode cX3_dancer 42 = .ok (.invokespecial 54, 3) := by decide +kernel
theorem dX3_dancer_45 : decode cX3_dancer 45 = .ok (.athrow, 1) := by decide +kernel
theorem dX3_dancer_46 : decode cX3_dancer 46 = .ok (.aload_n 0, 1) := by decide +kernel
theorem dX3_dancer_47 : decode cX3_dancer 47 = .ok (.iload_n 1, 1) := by decide +kernel
theorem dX3_dancer_48 : decode cX3_dancer 48 = .ok (.iload_n 2, 1) := by decide +kernel
theorem dX3_dancer_49 : decode cX3_dancer 49 = .ok (.invokevirtual 55, 3) := by decide +kernel
theorem dX3_dancer_52 : decode cX3_dancer 52 = .ok (.ifCond .eq 13, 3) := by decide +kernel
theorem dX3_dancer_55 : decode cX3_dancer 55 = .ok (.new 50, 3) := by decide +kernel
theorem dX3_dancer_58 : decode cX3_dancer 58 = .ok (.dup, 1) := by decide +kernel
theorem dX3_dancer_59 : decode cX3_dancer 59 = .ok (.ldc 59, 2) := by decide +kernel
theorem dX3_dancer_61 : decode cX3_dancer 61 = .ok (.invokespecial 54, 3) := by decide +kernel
theorem dX3_dancer_64 : decode cX3_dancer 64 = .ok (.athrow, 1) := by decide +kernel
theorem dX3_dancer_65 : decode cX3_dancer 65 = .ok (.aload_n 0, 1) := by decide +kernel
theorem dX3_dancer_66 : decode cX3_dancer 66 = .ok (.getfield 10, 3) := by decide +kernel
theorem dX3_dancer_69 : decode cX3_dancer 69 = .ok (.new 61, 3) := by decide +kernel
theorem dX3_dancer_72 : decode cX3_dancer 72 = .ok (.dup, 1) := by decide +kernel
theorem dX3_dancer_73 : decode cX3_dancer 73 = .ok (.iload_n 1, 1) := by decide +kernel
theorem dX3_dancer_74 : decode cX3_dancer 74 = .ok (.iload_n 2, 1) := by decide +kernel
theorem dX3_dancer_75 : decode cX3_dancer 75 = .ok (.invokespecial 63, 3) := by decide +kernel
theorem dX3_dancer_78 : decode cX3_dancer 78 = .ok (.invokevirtual 66, 3) := by decide +kernel
theorem dX3_dancer_81 : decode cX3_dancer 81 = .ok (.pop, 1) := by decide +kernel
theorem dX3_dancer_82 : decode cX3_dancer 82 = .ok (.aload_n 0, 1) := by decide +kernel
theorem dX3_dancer_83 : decode cX3_dancer 83 = .ok (.getfield 10, 3) := by decide +kernel
theorem dX3_dancer_86 : decode cX3_dancer 86 = .ok (.invokevirtual 46, 3) := by decide +kernel
theorem dX3_dancer_89 : decode cX3_dancer 89 = .ok (.iconst 1, 1) := by decide +kernel
theorem dX3_dancer_90 : decode cX3_dancer 90 = .ok (.isub, 1) := by decide +kernel
theorem dX3_dancer_91 : decode cX3_dancer 91 = .ok (.ireturn, 1) := by decide +kernel
theorem dX3_move_0 : decode cX3_move 0 = .ok (.aload_n 0, 1) := by decide +kernel
theorem dX3_move_1 : decode cX3_move 1 = .ok (.iload_n 1, 1) := by decide +kernel
theorem dX3_move_2 : decode cX3_move 2 = .ok (.invokevirtual 70, 3) := by decide +kernel
theorem dX3_move_5 : decode cX3_move 5 = .ok (.iload_n 2, 1) := by decide +kernel
theorem dX3_move_6 : decode cX3_move 6 = .ok (.invokestatic 74, 3) := by decide +kernel
theorem dX3_move_9 : decode cX3_move 9 = .ok (.iload_n 3, 1) := by decide +kernel
theorem dX3_move_10 : decode cX3_move 10 = .ok (.invokestatic 77, 3) := by decide +kernel
theorem dX3_move_13 : decode cX3_move 13 = .ok (.ifCond .eq 11, 3) := by decide +kernel
theorem dX3_move_16 : decode cX3_move 16 = .ok (.iload 4, 2) := by decide +kernel
theorem dX3_move_18 : decode cX3_move 18 = .ok (.invokestatic 77, 3) := by decide +kernel
theorem dX3_move_21 : decode cX3_move 21 = .ok (.ifCond .ne 13, 3) := by decide +kernel
theorem dX3_move_24 : decode cX3_move 24 = .ok (.new 80, 3) := by decide +kernel
theorem dX3_move_27 : decode cX3_move 27 = .ok (.dup, 1) := by decide +kernel
theorem dX3_move_28 : decode cX3_move 28 = .ok (.ldc 82, 2) := by decide +kernel
theorem dX3_move_30 : decode cX3_move 30 = .ok (.invokespecial 84, 3) := by decide +kernel
theorem dX3_move_33 : decode cX3_move 33 = .ok (.athrow, 1) := by decide +kernel
theorem dX3_move_34 : decode cX3_move 34 = .ok (.aload_n 0, 1) := by decide +kernel
theorem dX3_move_35 : decode cX3_move 35 = .ok (.getfield 10, 3) := by decide +kernel
theorem dX3_move_38 : decode cX3_move 38 = .ok (.iload_n 1, 1) := by decide +kernel
theorem dX3_move_39 : decode cX3_move 39 = .ok (.invokevirtual 85, 3) := by decide +kernel
theorem dX3_move_42 : decode cX3_move 42 = .ok (.checkcast 61, 3) := by decide +kernel
theorem dX3_move_45 : decode cX3_move 45 = .ok (.astore 5, 2) := by decide +kernel
theorem dX3_move_47 : decode cX3_move 47 = .ok (.aload 5, 2) := by decide +kernel
theorem dX3_move_49 : decode cX3_move 49 = .ok (.getfield 89, 3) := by decide +kernel
theorem dX3_move_52 : decode cX3_move 52 = .ok (.ifCond .eq 13, 3) := by decide +kernel
theorem dX3_move_55 : decode cX3_move 55 = .ok (.new 50, 3) := by decide +kernel
theorem dX3_move_58 : decode cX3_move 58 = .ok (.dup, 1) := by decide +kernel
theorem dX3_move_59 : decode cX3_move 59 = .ok (.ldc 93, 2) := by decide +kernel
theorem dX3_move_61 : decode cX3_move 61 = .ok (.invokespecial 54, 3) := by decide +kernel
theorem dX3_move_64 : decode cX3_move 64 = .ok (.athrow, 1) := by decide +kernel
theorem dX3_move_65 : decode cX3_move 65 = .ok (.aload 5, 2) := by decide +kernel
theorem dX3_move_67 : decode cX3_move 67 = .ok (.getfield 95, 3) := by decide +kernel
theorem dX3_move_70 : decode cX3_move 70 = .ok (.iload_n 2, 1) := by decide +kernel
theorem dX3_move_71 : decode cX3_move 71 = .ok (.iload_n 3, 1) := by decide +kernel
theorem dX3_move_72 : decode cX3_move 72 = .ok (.invokevirtual 99, 3) := by decide +kernel
theorem dX3_move_75 : decode cX3_move 75 = .ok (.aload 5, 2) := by decide +kernel
theorem dX3_move_77 : decode cX3_move 77 = .ok (.getfield 104, 3) := by decide +kernel
theorem dX3_move_80 : decode cX3_move 80 = .ok (.iload_n 2, 1) := by decide +kernel
theorem dX3_move_81 : decode cX3_move 81 = .ok (.iload 4, 2) := by decide +kernel
theorem dX3_move_83 : decode cX3_move 83 = .ok (.invokevirtual 99, 3) := by decide +kernel
theorem dX3_move_86 : decode cX3_move 86 = .ok (.aload 5, 2) := by decide +kernel
theorem dX3_move_88 : decode cX3_move 88 = .ok (.invokevirtual 107, 3) := by decide +kernel
theorem dX3_move_91 : decode cX3_move 91 = .ok (.ireturn, 1) := by decide +kernel
theorem dX3_place_0 : decode cX3_place 0 = .ok (.aload_n 0, 1) := by decide +kernel
theorem dX3_place_1 : decode cX3_place 1 = .ok (.iload_n 1, 1) := by decide +kernel
theorem dX3_place_2 : decode cX3_place 2 = .ok (.invokevirtual 70, 3) := by decide +kernel
theorem dX3_place_5 : decode cX3_place 5 = .ok (.iload_n 2, 1) := by decide +kernel
theorem dX3_place_6 : decode cX3_place 6 = .ok (.invokestatic 74, 3) := by decide +kernel
theorem dX3_place_9 : decode cX3_place 9 = .ok (.aload_n 0, 1) := by decide +kernel
theorem dX3_place_10 : decode cX3_place 10 = .ok (.getfield 10, 3) := by decide +kernel
theorem dX3_place_13 : decode cX3_place 13 = .ok (.iload_n 1, 1) := by decide +kernel
theorem dX3_place_14 : decode cX3_place 14 = .ok (.invokevirtual 85, 3) := by decide +kernel
theorem dX3_place_17 : decode cX3_place 17 = .ok (.checkcast 61, 3) := by decide +kernel
theorem dX3_place_20 : decode cX3_place 20 = .ok (.iload_n 3, 1) := by decide +kernel
theorem dX3_place_21 : decode cX3_place 21 = .ok (.invokevirtual 110, 3) := by decide +kernel
theorem dX3_place_24 : decode cX3_place 24 = .ok (.getfield 114, 3) := by decide +kernel
theorem dX3_place_27 : decode cX3_place 27 = .ok (.iload_n 2, 1) := by decide +kernel
theorem dX3_place_28 : decode cX3_place 28 = .ok (.iaload, 1) := by decide +kernel
theorem dX3_place_29 : decode cX3_place 29 = .ok (.ireturn, 1) := by decide +kernel
theorem dX3_placeAnew_0 : decode cX3_placeAnew 0 = .ok (.aload_n 0, 1) := by decide +kernel
theorem dX3_placeAnew_1 : decode cX3_placeAnew 1 = .ok (.iload_n 1, 1) := by decide +kernel
theorem dX3_placeAnew_2 : decode cX3_placeAnew 2 = .ok (.invokevirtual 70, 3) := by decide +kernel
theorem dX3_placeAnew_5 : decode cX3_placeAnew 5 = .ok (.iload_n 2, 1) := by decide +kernel
theorem dX3_placeAnew_6 : decode cX3_placeAnew 6 = .ok (.invokestatic 74, 3) := by decide +kernel
theorem dX3_placeAnew_9 : decode cX3_placeAnew 9 = .ok (.aload_n 0, 1) := by decide +kernel
theorem dX3_placeAnew_10 : decode cX3_placeAnew 10 = .ok (.getfield 10, 3) := by decide +kernel
theorem dX3_placeAnew_13 : decode cX3_placeAnew 13 = .ok (.iload_n 1, 1) := by decide +kernel
theorem dX3_placeAnew_14 : decode cX3_placeAnew 14 = .ok (.invokevirtual 85, 3) := by decide +kernel
theorem dX3_placeAnew_17 : decode cX3_placeAnew 17 = .ok (.checkcast 61, 3) := by decide +kernel
theorem dX3_placeAnew_20 : decode cX3_placeAnew 20 = .ok (.iload_n 3, 1) := by decide +kernel
theorem dX3_placeAnew_21 : decode cX3_placeAnew 21 = .ok (.invokevirtual 110, 3) := by decide +kernel
theorem dX3_placeAnew_24 : decode cX3_placeAnew 24 = .ok (.iload_n 2, 1) := by decide +kernel
theorem dX3_placeAnew_25 : decode cX3_placeAnew 25 = .ok (.invokevirtual 117, 3) := by decide +kernel
theorem dX3_placeAnew_28 : decode cX3_placeAnew 28 = .ok (.ireturn, 1) := by decide +kernel
theorem dX3_clashes_0 : decode cX3_clashes 0 = .ok (.iload_n 1, 1) := by decide +kernel
theorem dX3_clashes_1 : decode cX3_clashes 1 = .ok (.invokestatic 74, 3) := by decide +kernel
theorem dX3_clashes_4 : decode cX3_clashes 4 = .ok (.aload_n 0, 1) := by decide +kernel
theorem dX3_clashes_5 : decode cX3_clashes 5 = .ok (.iload_n 1, 1) := by decide +kernel
theorem dX3_clashes_6 : decode cX3_clashes 6 = .ok (.invokevirtual 121, 3) := by decide +kernel
theorem dX3_clashes_9 : decode cX3_clashes 9 = .ok (.ireturn, 1) := by decide +kernel
theorem dX3_firstClash_0 : decode cX3_firstClash 0 = .ok (.iconst 0, 1) := by decide +kernel
theorem dX3_firstClash_1 : decode cX3_firstClash 1 = .ok (.istore_n 1, 1) := by decide +kernel
theorem dX3_firstClash_2 : decode cX3_firstClash 2 = .ok (.iload_n 1, 1) := by decide +kernel
theorem dX3_firstClash_3 : decode cX3_firstClash 3 = .ok (.bipush 64, 2) := by decide +kernel
theorem dX3_firstClash_5 : decode cX3_firstClash 5 = .ok (.if_icmp .ge 19, 3) := by decide +kernel
theorem dX3_firstClash_8 : decode cX3_firstClash 8 = .ok (.aload_n 0, 1) := by decide +kernel
theorem dX3_firstClash_9 : decode cX3_firstClash 9 = .ok (.iload_n 1, 1) := by decide +kernel
theorem dX3_firstClash_10 : decode cX3_firstClash 10 = .ok (.invokevirtual 121, 3) := by decide +kernel
theorem dX3_firstClash_13 : decode cX3_firstClash 13 = .ok (.ifCond .le 5, 3) := by decide +kernel
theorem dX3_firstClash_16 : decode cX3_firstClash 16 = .ok (.iload_n 1, 1) := by decide +kernel
theorem dX3_firstClash_17 : decode cX3_firstClash 17 = .ok (.ireturn, 1) := by decide +kernel
theorem dX3_firstClash_18 : decode cX3_firstClash 18 = .ok (.iinc 1 1, 3) := by decide +kernel
theorem dX3_firstClash_21 : decode cX3_firstClash 21 = .ok (.goto (-19), 3) := by decide +kernel
theorem dX3_firstClash_24 : decode cX3_firstClash 24 = .ok (.iconst (-1), 1) := by decide +kernel
theorem dX3_firstClash_25 : decode cX3_firstClash 25 = .ok (.ireturn, 1) := by decide +kernel
theorem dX3_lift_0 : decode cX3_lift 0 = .ok (.iload_n 1, 1) := by decide +kernel
theorem dX3_lift_1 : decode cX3_lift 1 = .ok (.invokestatic 74, 3) := by decide +kernel
theorem dX3_lift_4 : decode cX3_lift 4 = .ok (.aload_n 0, 1) := by decide +kernel
theorem dX3_lift_5 : decode cX3_lift 5 = .ok (.iload_n 2, 1) := by decide +kernel
theorem dX3_lift_6 : decode cX3_lift 6 = .ok (.invokevirtual 70, 3) := by decide +kernel
theorem dX3_lift_9 : decode cX3_lift 9 = .ok (.aload_n 0, 1) := by decide +kernel
theorem dX3_lift_10 : decode cX3_lift 10 = .ok (.iload_n 3, 1) := by decide +kernel
theorem dX3_lift_11 : decode cX3_lift 11 = .ok (.invokevirtual 70, 3) := by decide +kernel
theorem dX3_lift_14 : decode cX3_lift 14 = .ok (.aload_n 0, 1) := by decide +kernel
theorem dX3_lift_15 : decode cX3_lift 15 = .ok (.iload 4, 2) := by decide +kernel
theorem dX3_lift_17 : decode cX3_lift 17 = .ok (.invokevirtual 70, 3) := by decide +kernel
theorem dX3_lift_20 : decode cX3_lift 20 = .ok (.iload_n 2, 1) := by decide +kernel
theorem dX3_lift_21 : decode cX3_lift 21 = .ok (.iload_n 3, 1) := by decide +kernel
theorem dX3_lift_22 : decode cX3_lift 22 = .ok (.if_icmp .eq 15, 3) := by decide +kernel
theorem dX3_lift_25 : decode cX3_lift 25 = .ok (.iload_n 2, 1) := by decide +kernel
theorem dX3_lift_26 : decode cX3_lift 26 = .ok (.iload 4, 2) := by decide +kernel
theorem dX3_lift_28 : decode cX3_lift 28 = .ok (.if_icmp .eq 9, 3) := by decide +kernel
theorem dX3_lift_31 : decode cX3_lift 31 = .ok (.iload_n 3, 1) := by decide +kernel
theorem dX3_lift_32 : decode cX3_lift 32 = .ok (.iload 4, 2) := by decide +kernel
theorem dX3_lift_34 : decode cX3_lift 34 = .ok (.if_icmp .ne 13, 3) := by decide +kernel
theorem dX3_lift_37 : decode cX3_lift 37 = .ok (.new 80, 3) := by decide +kernel
theorem dX3_lift_40 : decode cX3_lift 40 = .ok (.dup, 1) := by decide +kernel
theorem dX3_lift_41 : decode cX3_lift 41 = .ok (.ldc 124, 2) := by decide +kernel
theorem dX3_lift_43 : decode cX3_lift 43 = .ok (.invokespecial 84, 3) := by decide +kernel
theorem dX3_lift_46 : decode cX3_lift 46 = .ok (.athrow, 1) := by decide +kernel
theorem dX3_lift_47 : decode cX3_lift 47 = .ok (.aload_n 0, 1) := by decide +kernel
theorem dX3_lift_48 : decode cX3_lift 48 = .ok (.iload_n 2, 1) := by decide +kernel
theorem dX3_lift_49 : decode cX3_lift 49 = .ok (.invokevirtual 126, 3) := by decide +kernel
theorem dX3_lift_52 : decode cX3_lift 52 = .ok (.ifCond .ne 20, 3) := by decide +kernel
theorem dX3_lift_55 : decode cX3_lift 55 = .ok (.aload_n 0, 1) := by decide +kernel
theorem dX3_lift_56 : decode cX3_lift 56 = .ok (.iload_n 3, 1) := by decide +kernel
theorem dX3_lift_57 : decode cX3_lift 57 = .ok (.invokevirtual 126, 3) := by decide +kernel
theorem dX3_lift_60 : decode cX3_lift 60 = .ok (.ifCond .ne 12, 3) := by decide +kernel
theorem dX3_lift_63 : decode cX3_lift 63 = .ok (.aload_n 0, 1) := by decide +kernel
theorem dX3_lift_64 : decode cX3_lift 64 = .ok (.iload 4, 2) := by decide +kernel
theorem dX3_lift_66 : decode cX3_lift 66 = .ok (.invokevirtual 126, 3) := by decide +kernel
theorem dX3_lift_69 : decode cX3_lift 69 = .ok (.ifCond .eq 13, 3) := by decide +kernel
theorem dX3_lift_72 : decode cX3_lift 72 = .ok (.new 50, 3) := by decide +kernel
theorem dX3_lift_75 : decode cX3_lift 75 = .ok (.dup, 1) := by decide +kernel
theorem dX3_lift_76 : decode cX3_lift 76 = .ok (.ldc 93, 2) := by decide +kernel
theorem dX3_lift_78 : decode cX3_lift 78 = .ok (.invokespecial 54, 3) := by decide +kernel
theorem dX3_lift_81 : decode cX3_lift 81 = .ok (.athrow, 1) := by decide +kernel
theorem dX3_lift_82 : decode cX3_lift 82 = .ok (.aload_n 0, 1) := by decide +kernel
theorem dX3_lift_83 : decode cX3_lift 83 = .ok (.getfield 16, 3) := by decide +kernel
theorem dX3_lift_86 : decode cX3_lift 86 = .ok (.invokevirtual 46, 3) := by decide +kernel
theorem dX3_lift_89 : decode cX3_lift 89 = .ok (.bipush 12, 2) := by decide +kernel
theorem dX3_lift_91 : decode cX3_lift 91 = .ok (.if_icmp .lt 13, 3) := by decide +kernel
theorem dX3_lift_94 : decode cX3_lift 94 = .ok (.new 50, 3) := by decide +kernel
theorem dX3_lift_97 : decode cX3_lift 97 = .ok (.dup, 1) := by decide +kernel
theorem dX3_lift_98 : decode cX3_lift 98 = .ok (.ldc 129, 2) := by decide +kernel
theorem dX3_lift_100 : decode cX3_lift 100 = .ok (.invokespecial 54, 3) := by decide +kernel
theorem dX3_lift_103 : decode cX3_lift 103 = .ok (.athrow, 1) := by decide +kernel
theorem dX3_lift_104 : decode cX3_lift 104 = .ok (.aload_n 0, 1) := by decide +kernel
theorem dX3_lift_105 : decode cX3_lift 105 = .ok (.getfield 16, 3) := by decide +kernel
theorem dX3_lift_108 : decode cX3_lift 108 = .ok (.new 131, 3) := by decide +kernel
theorem dX3_lift_111 : decode cX3_lift 111 = .ok (.dup, 1) := by decide +kernel
theorem dX3_lift_112 : decode cX3_lift 112 = .ok (.iload_n 1, 1) := by decide +kernel
theorem dX3_lift_113 : decode cX3_lift 113 = .ok (.iload_n 2, 1) := by decide +kernel
theorem dX3_lift_114 : decode cX3_lift 114 = .ok (.iload_n 3, 1) := by decide +kernel
theorem dX3_lift_115 : decode cX3_lift 115 = .ok (.iload 4, 2) := by decide +kernel
theorem dX3_lift_117 : decode cX3_lift 117 = .ok (.invokespecial 133, 3) := by decide +kernel
theorem dX3_lift_120 : decode cX3_lift 120 = .ok (.invokevirtual 66, 3) := by decide +kernel
theorem dX3_lift_123 : decode cX3_lift 123 = .ok (.pop, 1) := by decide +kernel
theorem dX3_lift_124 : decode cX3_lift 124 = .ok (.aload_n 0, 1) := by decide +kernel
theorem dX3_lift_125 : decode cX3_lift 125 = .ok (.getfield 16, 3) := by decide +kernel
theorem dX3_lift_128 : decode cX3_lift 128 = .ok (.invokevirtual 46, 3) := by decide +kernel
theorem dX3_lift_131 : decode cX3_lift 131 = .ok (.iconst 1, 1) := by decide +kernel
theorem dX3_lift_132 : decode cX3_lift 132 = .ok (.isub, 1) := by decide +kernel
theorem dX3_lift_133 : decode cX3_lift 133 = .ok (.ireturn, 1) := by decide +kernel
theorem dX3_ofLift_0 : decode cX3_ofLift 0 = .ok (.iload_n 1, 1) := by decide +kernel
theorem dX3_ofLift_1 : decode cX3_ofLift 1 = .ok (.ifCond .lt 14, 3) := by decide +kernel
theorem dX3_ofLift_4 : decode cX3_ofLift 4 = .ok (.iload_n 1, 1) := by decide +kernel
theorem dX3_ofLift_5 : decode cX3_ofLift 5 = .ok (.aload_n 0, 1) := by decide +kernel
theorem dX3_ofLift_6 : decode cX3_ofLift 6 = .ok (.getfield 16, 3) := by decide +kernel
theorem dX3_ofLift_9 : decode cX3_ofLift 9 = .ok (.invokevirtual 46, 3) := by decide +kernel
theorem dX3_ofLift_12 : decode cX3_ofLift 12 = .ok (.if_icmp .lt 13, 3) := by decide +kernel
theorem dX3_ofLift_15 : decode cX3_ofLift 15 = .ok (.new 39, 3) := by decide +kernel
theorem dX3_ofLift_18 : decode cX3_ofLift 18 = .ok (.dup, 1) := by decide +kernel
theorem dX3_ofLift_19 : decode cX3_ofLift 19 = .ok (.ldc 136, 2) := by decide +kernel
theorem dX3_ofLift_21 : decode cX3_ofLift 21 = .ok (.invokespecial 43, 3) := by decide +kernel
theorem dX3_ofLift_24 : decode cX3_ofLift 24 = .ok (.athrow, 1) := by decide +kernel
theorem dX3_ofLift_25 : decode cX3_ofLift 25 = .ok (.iload_n 2, 1) := by decide +kernel
theorem dX3_ofLift_26 : decode cX3_ofLift 26 = .ok (.ifCond .lt 8, 3) := by decide +kernel
theorem dX3_ofLift_29 : decode cX3_ofLift 29 = .ok (.iload_n 2, 1) := by decide +kernel
theorem dX3_ofLift_30 : decode cX3_ofLift 30 = .ok (.iconst 5, 1) := by decide +kernel
theorem dX3_ofLift_31 : decode cX3_ofLift 31 = .ok (.if_icmp .lt 13, 3) := by decide +kernel
theorem dX3_ofLift_34 : decode cX3_ofLift 34 = .ok (.new 80, 3) := by decide +kernel
theorem dX3_ofLift_37 : decode cX3_ofLift 37 = .ok (.dup, 1) := by decide +kernel
theorem dX3_ofLift_38 : decode cX3_ofLift 38 = .ok (.ldc 138, 2) := by decide +kernel
theorem dX3_ofLift_40 : decode cX3_ofLift 40 = .ok (.invokespecial 84, 3) := by decide +kernel
theorem dX3_ofLift_43 : decode cX3_ofLift 43 = .ok (.athrow, 1) := by decide +kernel
theorem dX3_ofLift_44 : decode cX3_ofLift 44 = .ok (.aload_n 0, 1) := by decide +kernel
theorem dX3_ofLift_45 : decode cX3_ofLift 45 = .ok (.getfield 16, 3) := by decide +kernel
theorem dX3_ofLift_48 : decode cX3_ofLift 48 = .ok (.iload_n 1, 1) := by decide +kernel
theorem dX3_ofLift_49 : decode cX3_ofLift 49 = .ok (.invokevirtual 85, 3) := by decide +kernel
theorem dX3_ofLift_52 : decode cX3_ofLift 52 = .ok (.checkcast 131, 3) := by decide +kernel
theorem dX3_ofLift_55 : decode cX3_ofLift 55 = .ok (.astore_n 3, 1) := by decide +kernel
theorem dX3_ofLift_56 : decode cX3_ofLift 56 = .ok (.iload_n 2, 1) := by decide +kernel
theorem dX3_ofLift_57 : decode cX3_ofLift 57 = .ok (.tableswitch 51 0 3 #[31, 36, 41, 46], 31) := by decide +kernel
theorem dX3_ofLift_88 : decode cX3_ofLift 88 = .ok (.aload_n 3, 1) := by decide +kernel
theorem dX3_ofLift_89 : decode cX3_ofLift 89 = .ok (.getfield 140, 3) := by decide +kernel
theorem dX3_ofLift_92 : decode cX3_ofLift 92 = .ok (.ireturn, 1) := by decide +kernel
theorem dX3_ofLift_93 : decode cX3_ofLift 93 = .ok (.aload_n 3, 1) := by decide +kernel
theorem dX3_ofLift_94 : decode cX3_ofLift 94 = .ok (.getfield 143, 3) := by decide +kernel
theorem dX3_ofLift_97 : decode cX3_ofLift 97 = .ok (.ireturn, 1) := by decide +kernel
theorem dX3_ofLift_98 : decode cX3_ofLift 98 = .ok (.aload_n 3, 1) := by decide +kernel
theorem dX3_ofLift_99 : decode cX3_ofLift 99 = .ok (.getfield 146, 3) := by decide +kernel
theorem dX3_ofLift_102 : decode cX3_ofLift 102 = .ok (.ireturn, 1) := by decide +kernel
theorem dX3_ofLift_103 : decode cX3_ofLift 103 = .ok (.aload_n 3, 1) := by decide +kernel
theorem dX3_ofLift_104 : decode cX3_ofLift 104 = .ok (.getfield 149, 3) := by decide +kernel
theorem dX3_ofLift_107 : decode cX3_ofLift 107 = .ok (.ireturn, 1) := by decide +kernel
theorem dX3_ofLift_108 : decode cX3_ofLift 108 = .ok (.aload_n 0, 1) := by decide +kernel
theorem dX3_ofLift_109 : decode cX3_ofLift 109 = .ok (.aload_n 3, 1) := by decide +kernel
theorem dX3_ofLift_110 : decode cX3_ofLift 110 = .ok (.invokevirtual 152, 3) := by decide +kernel
theorem dX3_ofLift_113 : decode cX3_ofLift 113 = .ok (.ireturn, 1) := by decide +kernel
theorem dX3_tempo_0 : decode cX3_tempo 0 = .ok (.iload_n 1, 1) := by decide +kernel
theorem dX3_tempo_1 : decode cX3_tempo 1 = .ok (.invokestatic 74, 3) := by decide +kernel
theorem dX3_tempo_4 : decode cX3_tempo 4 = .ok (.iload_n 2, 1) := by decide +kernel
theorem dX3_tempo_5 : decode cX3_tempo 5 = .ok (.iconst 1, 1) := by decide +kernel
theorem dX3_tempo_6 : decode cX3_tempo 6 = .ok (.if_icmp .lt 9, 3) := by decide +kernel
theorem dX3_tempo_9 : decode cX3_tempo 9 = .ok (.iload_n 2, 1) := by decide +kernel
theorem dX3_tempo_10 : decode cX3_tempo 10 = .ok (.ldc 156, 2) := by decide +kernel
theorem dX3_tempo_12 : decode cX3_tempo 12 = .ok (.if_icmp .le 13, 3) := by decide +kernel
theorem dX3_tempo_15 : decode cX3_tempo 15 = .ok (.new 80, 3) := by decide +kernel
theorem dX3_tempo_18 : decode cX3_tempo 18 = .ok (.dup, 1) := by decide +kernel
theorem dX3_tempo_19 : decode cX3_tempo 19 = .ok (.ldc 157, 2) := by decide +kernel
theorem dX3_tempo_21 : decode cX3_tempo 21 = .ok (.invokespecial 84, 3) := by decide +kernel
theorem dX3_tempo_24 : decode cX3_tempo 24 = .ok (.athrow, 1) := by decide +kernel
theorem dX3_tempo_25 : decode cX3_tempo 25 = .ok (.aload_n 0, 1) := by decide +kernel
theorem dX3_tempo_26 : decode cX3_tempo 26 = .ok (.iload_n 1, 1) := by decide +kernel
theorem dX3_tempo_27 : decode cX3_tempo 27 = .ok (.invokevirtual 159, 3) := by decide +kernel
theorem dX3_tempo_30 : decode cX3_tempo 30 = .ok (.istore_n 3, 1) := by decide +kernel
theorem dX3_tempo_31 : decode cX3_tempo 31 = .ok (.aload_n 0, 1) := by decide +kernel
theorem dX3_tempo_32 : decode cX3_tempo 32 = .ok (.getfield 19, 3) := by decide +kernel
theorem dX3_tempo_35 : decode cX3_tempo 35 = .ok (.iload_n 1, 1) := by decide +kernel
theorem dX3_tempo_36 : decode cX3_tempo 36 = .ok (.iload_n 2, 1) := by decide +kernel
theorem dX3_tempo_37 : decode cX3_tempo 37 = .ok (.iastore, 1) := by decide +kernel
theorem dX3_tempo_38 : decode cX3_tempo 38 = .ok (.iload_n 3, 1) := by decide +kernel
theorem dX3_tempo_39 : decode cX3_tempo 39 = .ok (.ireturn, 1) := by decide +kernel
theorem dX3_begins_0 : decode cX3_begins 0 = .ok (.iload_n 1, 1) := by decide +kernel
theorem dX3_begins_1 : decode cX3_begins 1 = .ok (.invokestatic 74, 3) := by decide +kernel
theorem dX3_begins_4 : decode cX3_begins 4 = .ok (.aload_n 0, 1) := by decide +kernel
theorem dX3_begins_5 : decode cX3_begins 5 = .ok (.iload_n 1, 1) := by decide +kernel
theorem dX3_begins_6 : decode cX3_begins 6 = .ok (.invokevirtual 162, 3) := by decide +kernel
theorem dX3_begins_9 : decode cX3_begins 9 = .ok (.lstore_n 2, 1) := by decide +kernel
theorem dX3_begins_10 : decode cX3_begins 10 = .ok (.lload_n 2, 1) := by decide +kernel
theorem dX3_begins_11 : decode cX3_begins 11 = .ok (.ldc2_w 166, 3) := by decide +kernel
theorem dX3_begins_14 : decode cX3_begins 14 = .ok (.lcmp, 1) := by decide +kernel
theorem dX3_begins_15 : decode cX3_begins 15 = .ok (.ifCond .le 13, 3) := by decide +kernel
theorem dX3_begins_18 : decode cX3_begins 18 = .ok (.new 168, 3) := by decide +kernel
theorem dX3_begins_21 : decode cX3_begins 21 = .ok (.dup, 1) := by decide +kernel
theorem dX3_begins_22 : decode cX3_begins 22 = .ok (.ldc 170, 2) := by decide +kernel
theorem dX3_begins_24 : decode cX3_begins 24 = .ok (.invokespecial 172, 3) := by decide +kernel
theorem dX3_begins_27 : decode cX3_begins 27 = .ok (.athrow, 1) := by decide +kernel
theorem dX3_begins_28 : decode cX3_begins 28 = .ok (.lload_n 2, 1) := by decide +kernel
theorem dX3_begins_29 : decode cX3_begins 29 = .ok (.l2i, 1) := by decide +kernel
theorem dX3_begins_30 : decode cX3_begins 30 = .ok (.ireturn, 1) := by decide +kernel
theorem dX3_rehearse_0 : decode cX3_rehearse 0 = .ok (.iload_n 1, 1) := by decide +kernel
theorem dX3_rehearse_1 : decode cX3_rehearse 1 = .ok (.invokestatic 173, 3) := by decide +kernel
theorem dX3_rehearse_4 : decode cX3_rehearse 4 = .ok (.iload_n 2, 1) := by decide +kernel
theorem dX3_rehearse_5 : decode cX3_rehearse 5 = .ok (.invokestatic 176, 3) := by decide +kernel
theorem dX3_rehearse_8 : decode cX3_rehearse 8 = .ok (.iload_n 3, 1) := by decide +kernel
theorem dX3_rehearse_9 : decode cX3_rehearse 9 = .ok (.invokestatic 74, 3) := by decide +kernel
theorem dX3_rehearse_12 : decode cX3_rehearse 12 = .ok (.iload 4, 2) := by decide +kernel
theorem dX3_rehearse_14 : decode cX3_rehearse 14 = .ok (.invokestatic 74, 3) := by decide +kernel
theorem dX3_rehearse_17 : decode cX3_rehearse 17 = .ok (.iload 4, 2) := by decide +kernel
theorem dX3_rehearse_19 : decode cX3_rehearse 19 = .ok (.iload_n 3, 1) := by decide +kernel
theorem dX3_rehearse_20 : decode cX3_rehearse 20 = .ok (.if_icmp .ge 13, 3) := by decide +kernel
theorem dX3_rehearse_23 : decode cX3_rehearse 23 = .ok (.new 80, 3) := by decide +kernel
theorem dX3_rehearse_26 : decode cX3_rehearse 26 = .ok (.dup, 1) := by decide +kernel
theorem dX3_rehearse_27 : decode cX3_rehearse 27 = .ok (.ldc 179, 2) := by decide +kernel
theorem dX3_rehearse_29 : decode cX3_rehearse 29 = .ok (.invokespecial 84, 3) := by decide +kernel
theorem dX3_rehearse_32 : decode cX3_rehearse 32 = .ok (.athrow, 1) := by decide +kernel
theorem dX3_rehearse_33 : decode cX3_rehearse 33 = .ok (.aload_n 0, 1) := by decide +kernel
theorem dX3_rehearse_34 : decode cX3_rehearse 34 = .ok (.getfield 25, 3) := by decide +kernel
theorem dX3_rehearse_37 : decode cX3_rehearse 37 = .ok (.iload_n 1, 1) := by decide +kernel
theorem dX3_rehearse_38 : decode cX3_rehearse 38 = .ok (.aaload, 1) := by decide +kernel
theorem dX3_rehearse_39 : decode cX3_rehearse 39 = .ok (.iload_n 2, 1) := by decide +kernel
theorem dX3_rehearse_40 : decode cX3_rehearse 40 = .ok (.bipush 8, 2) := by decide +kernel
theorem dX3_rehearse_42 : decode cX3_rehearse 42 = .ok (.isub, 1) := by decide +kernel
theorem dX3_rehearse_43 : decode cX3_rehearse 43 = .ok (.iaload, 1) := by decide +kernel
theorem dX3_rehearse_44 : decode cX3_rehearse 44 = .ok (.iconst (-1), 1) := by decide +kernel
theorem dX3_rehearse_45 : decode cX3_rehearse 45 = .ok (.if_icmp .eq 13, 3) := by decide +kernel
theorem dX3_rehearse_48 : decode cX3_rehearse 48 = .ok (.new 50, 3) := by decide +kernel
theorem dX3_rehearse_51 : decode cX3_rehearse 51 = .ok (.dup, 1) := by decide +kernel
theorem dX3_rehearse_52 : decode cX3_rehearse 52 = .ok (.ldc 181, 2) := by decide +kernel
theorem dX3_rehearse_54 : decode cX3_rehearse 54 = .ok (.invokespecial 54, 3) := by decide +kernel
theorem dX3_rehearse_57 : decode cX3_rehearse 57 = .ok (.athrow, 1) := by decide +kernel
theorem dX3_rehearse_58 : decode cX3_rehearse 58 = .ok (.aload_n 0, 1) := by decide +kernel
theorem dX3_rehearse_59 : decode cX3_rehearse 59 = .ok (.iload_n 3, 1) := by decide +kernel
theorem dX3_rehearse_60 : decode cX3_rehearse 60 = .ok (.iload 4, 2) := by decide +kernel
theorem dX3_rehearse_62 : decode cX3_rehearse 62 = .ok (.invokevirtual 183, 3) := by decide +kernel
theorem dX3_rehearse_65 : decode cX3_rehearse 65 = .ok (.istore 5, 2) := by decide +kernel
theorem dX3_rehearse_67 : decode cX3_rehearse 67 = .ok (.aload_n 0, 1) := by decide +kernel
theorem dX3_rehearse_68 : decode cX3_rehearse 68 = .ok (.iload 5, 2) := by decide +kernel
theorem dX3_rehearse_70 : decode cX3_rehearse 70 = .ok (.iload_n 2, 1) := by decide +kernel
theorem dX3_rehearse_71 : decode cX3_rehearse 71 = .ok (.invokevirtual 187, 3) := by decide +kernel
theorem dX3_rehearse_74 : decode cX3_rehearse 74 = .ok (.ifCond .eq 13, 3) := by decide +kernel
theorem dX3_rehearse_77 : decode cX3_rehearse 77 = .ok (.new 50, 3) := by decide +kernel
theorem dX3_rehearse_80 : decode cX3_rehearse 80 = .ok (.dup, 1) := by decide +kernel
theorem dX3_rehearse_81 : decode cX3_rehearse 81 = .ok (.ldc 190, 2) := by decide +kernel
theorem dX3_rehearse_83 : decode cX3_rehearse 83 = .ok (.invokespecial 54, 3) := by decide +kernel
theorem dX3_rehearse_86 : decode cX3_rehearse 86 = .ok (.athrow, 1) := by decide +kernel
theorem dX3_rehearse_87 : decode cX3_rehearse 87 = .ok (.aload_n 0, 1) := by decide +kernel
theorem dX3_rehearse_88 : decode cX3_rehearse 88 = .ok (.iload 5, 2) := by decide +kernel
theorem dX3_rehearse_90 : decode cX3_rehearse 90 = .ok (.iload_n 3, 1) := by decide +kernel
theorem dX3_rehearse_91 : decode cX3_rehearse 91 = .ok (.iload 4, 2) := by decide +kernel
theorem dX3_rehearse_93 : decode cX3_rehearse 93 = .ok (.invokevirtual 192, 3) := by decide +kernel
theorem dX3_rehearse_96 : decode cX3_rehearse 96 = .ok (.ifCond .ne 13, 3) := by decide +kernel
theorem dX3_rehearse_99 : decode cX3_rehearse 99 = .ok (.new 50, 3) := by decide +kernel
theorem dX3_rehearse_102 : decode cX3_rehearse 102 = .ok (.dup, 1) := by decide +kernel
theorem dX3_rehearse_103 : decode cX3_rehearse 103 = .ok (.ldc 196, 2) := by decide +kernel
theorem dX3_rehearse_105 : decode cX3_rehearse 105 = .ok (.invokespecial 54, 3) := by decide +kernel
theorem dX3_rehearse_108 : decode cX3_rehearse 108 = .ok (.athrow, 1) := by decide +kernel
theorem dX3_rehearse_109 : decode cX3_rehearse 109 = .ok (.aload_n 0, 1) := by decide +kernel
theorem dX3_rehearse_110 : decode cX3_rehearse 110 = .ok (.iload 5, 2) := by decide +kernel
theorem dX3_rehearse_112 : decode cX3_rehearse 112 = .ok (.iload_n 3, 1) := by decide +kernel
theorem dX3_rehearse_113 : decode cX3_rehearse 113 = .ok (.iload 4, 2) := by decide +kernel
theorem dX3_rehearse_115 : decode cX3_rehearse 115 = .ok (.invokevirtual 198, 3) := by decide +kernel
theorem dX3_rehearse_118 : decode cX3_rehearse 118 = .ok (.aload_n 0, 1) := by decide +kernel
theorem dX3_rehearse_119 : decode cX3_rehearse 119 = .ok (.getfield 25, 3) := by decide +kernel
theorem dX3_rehearse_122 : decode cX3_rehearse 122 = .ok (.iload_n 1, 1) := by decide +kernel
theorem dX3_rehearse_123 : decode cX3_rehearse 123 = .ok (.aaload, 1) := by decide +kernel
theorem dX3_rehearse_124 : decode cX3_rehearse 124 = .ok (.iload_n 2, 1) := by decide +kernel
theorem dX3_rehearse_125 : decode cX3_rehearse 125 = .ok (.bipush 8, 2) := by decide +kernel
theorem dX3_rehearse_127 : decode cX3_rehearse 127 = .ok (.isub, 1) := by decide +kernel
theorem dX3_rehearse_128 : decode cX3_rehearse 128 = .ok (.iload 5, 2) := by decide +kernel
theorem dX3_rehearse_130 : decode cX3_rehearse 130 = .ok (.iastore, 1) := by decide +kernel
theorem dX3_rehearse_131 : decode cX3_rehearse 131 = .ok (.iload 5, 2) := by decide +kernel
theorem dX3_rehearse_133 : decode cX3_rehearse 133 = .ok (.ireturn, 1) := by decide +kernel
theorem dX3_rehearsal_0 : decode cX3_rehearsal 0 = .ok (.iload_n 1, 1) := by decide +kernel
theorem dX3_rehearsal_1 : decode cX3_rehearsal 1 = .ok (.invokestatic 173, 3) := by decide +kernel
theorem dX3_rehearsal_4 : decode cX3_rehearsal 4 = .ok (.iload_n 2, 1) := by decide +kernel
theorem dX3_rehearsal_5 : decode cX3_rehearsal 5 = .ok (.invokestatic 176, 3) := by decide +kernel
theorem dX3_rehearsal_8 : decode cX3_rehearsal 8 = .ok (.aload_n 0, 1) := by decide +kernel
theorem dX3_rehearsal_9 : decode cX3_rehearsal 9 = .ok (.getfield 25, 3) := by decide +kernel
theorem dX3_rehearsal_12 : decode cX3_rehearsal 12 = .ok (.iload_n 1, 1) := by decide +kernel
theorem dX3_rehearsal_13 : decode cX3_rehearsal 13 = .ok (.aaload, 1) := by decide +kernel
theorem dX3_rehearsal_14 : decode cX3_rehearsal 14 = .ok (.iload_n 2, 1) := by decide +kernel
theorem dX3_rehearsal_15 : decode cX3_rehearsal 15 = .ok (.bipush 8, 2) := by decide +kernel
theorem dX3_rehearsal_17 : decode cX3_rehearsal 17 = .ok (.isub, 1) := by decide +kernel
theorem dX3_rehearsal_18 : decode cX3_rehearsal 18 = .ok (.iaload, 1) := by decide +kernel
theorem dX3_rehearsal_19 : decode cX3_rehearsal 19 = .ok (.ireturn, 1) := by decide +kernel
theorem dX3_knees_0 : decode cX3_knees 0 = .ok (.aload_n 0, 1) := by decide +kernel
theorem dX3_knees_1 : decode cX3_knees 1 = .ok (.iload_n 1, 1) := by decide +kernel
theorem dX3_knees_2 : decode cX3_knees 2 = .ok (.invokevirtual 70, 3) := by decide +kernel
theorem dX3_knees_5 : decode cX3_knees 5 = .ok (.aload_n 0, 1) := by decide +kernel
theorem dX3_knees_6 : decode cX3_knees 6 = .ok (.getfield 10, 3) := by decide +kernel
theorem dX3_knees_9 : decode cX3_knees 9 = .ok (.iload_n 1, 1) := by decide +kernel
theorem dX3_knees_10 : decode cX3_knees 10 = .ok (.invokevirtual 85, 3) := by decide +kernel
theorem dX3_knees_13 : decode cX3_knees 13 = .ok (.checkcast 61, 3) := by decide +kernel
theorem dX3_knees_16 : decode cX3_knees 16 = .ok (.getfield 202, 3) := by decide +kernel
theorem dX3_knees_19 : decode cX3_knees 19 = .ok (.ireturn, 1) := by decide +kernel
theorem dX3_sleep_0 : decode cX3_sleep 0 = .ok (.aload_n 0, 1) := by decide +kernel
theorem dX3_sleep_1 : decode cX3_sleep 1 = .ok (.invokevirtual 32, 3) := by decide +kernel
theorem dX3_sleep_4 : decode cX3_sleep 4 = .ok (.iconst 0, 1) := by decide +kernel
theorem dX3_sleep_5 : decode cX3_sleep 5 = .ok (.istore_n 1, 1) := by decide +kernel
theorem dX3_sleep_6 : decode cX3_sleep 6 = .ok (.iload_n 1, 1) := by decide +kernel
theorem dX3_sleep_7 : decode cX3_sleep 7 = .ok (.aload_n 0, 1) := by decide +kernel
theorem dX3_sleep_8 : decode cX3_sleep 8 = .ok (.getfield 10, 3) := by decide +kernel
theorem dX3_sleep_11 : decode cX3_sleep 11 = .ok (.invokevirtual 46, 3) := by decide +kernel
theorem dX3_sleep_14 : decode cX3_sleep 14 = .ok (.if_icmp .ge 36, 3) := by decide +kernel
theorem dX3_sleep_17 : decode cX3_sleep 17 = .ok (.aload_n 0, 1) := by decide +kernel
theorem dX3_sleep_18 : decode cX3_sleep 18 = .ok (.getfield 10, 3) := by decide +kernel
theorem dX3_sleep_21 : decode cX3_sleep 21 = .ok (.iload_n 1, 1) := by decide +kernel
theorem dX3_sleep_22 : decode cX3_sleep 22 = .ok (.invokevirtual 85, 3) := by decide +kernel
theorem dX3_sleep_25 : decode cX3_sleep 25 = .ok (.checkcast 61, 3) := by decide +kernel
theorem dX3_sleep_28 : decode cX3_sleep 28 = .ok (.astore_n 2, 1) := by decide +kernel
theorem dX3_sleep_29 : decode cX3_sleep 29 = .ok (.aload_n 2, 1) := by decide +kernel
theorem dX3_sleep_30 : decode cX3_sleep 30 = .ok (.iconst 0, 1) := by decide +kernel
theorem dX3_sleep_31 : decode cX3_sleep 31 = .ok (.aload_n 2, 1) := by decide +kernel
theorem dX3_sleep_32 : decode cX3_sleep 32 = .ok (.getfield 202, 3) := by decide +kernel
theorem dX3_sleep_35 : decode cX3_sleep 35 = .ok (.bipush 25, 2) := by decide +kernel
theorem dX3_sleep_37 : decode cX3_sleep 37 = .ok (.isub, 1) := by decide +kernel
theorem dX3_sleep_38 : decode cX3_sleep 38 = .ok (.invokestatic 205, 3) := by decide +kernel
theorem dX3_sleep_41 : decode cX3_sleep 41 = .ok (.putfield 202, 3) := by decide +kernel
theorem dX3_sleep_44 : decode cX3_sleep 44 = .ok (.iinc 1 1, 3) := by decide +kernel
theorem dX3_sleep_47 : decode cX3_sleep 47 = .ok (.goto (-41), 3) := by decide +kernel
theorem dX3_sleep_50 : decode cX3_sleep 50 = .ok (.aload_n 0, 1) := by decide +kernel
theorem dX3_sleep_51 : decode cX3_sleep 51 = .ok (.dup, 1) := by decide +kernel
theorem dX3_sleep_52 : decode cX3_sleep 52 = .ok (.getfield 28, 3) := by decide +kernel
theorem dX3_sleep_55 : decode cX3_sleep 55 = .ok (.iconst 1, 1) := by decide +kernel
theorem dX3_sleep_56 : decode cX3_sleep 56 = .ok (.iadd, 1) := by decide +kernel
theorem dX3_sleep_57 : decode cX3_sleep 57 = .ok (.putfield 28, 3) := by decide +kernel
theorem dX3_sleep_60 : decode cX3_sleep 60 = .ok (.aload_n 0, 1) := by decide +kernel
theorem dX3_sleep_61 : decode cX3_sleep 61 = .ok (.getfield 28, 3) := by decide +kernel
theorem dX3_sleep_64 : decode cX3_sleep 64 = .ok (.ireturn, 1) := by decide +kernel
theorem dX3_hurt_0 : decode cX3_hurt 0 = .ok (.aload_n 0, 1) := by decide +kernel
theorem dX3_hurt_1 : decode cX3_hurt 1 = .ok (.iload_n 1, 1) := by decide +kernel
theorem dX3_hurt_2 : decode cX3_hurt 2 = .ok (.invokevirtual 70, 3) := by decide +kernel
theorem dX3_hurt_5 : decode cX3_hurt 5 = .ok (.aload_n 0, 1) := by decide +kernel
theorem dX3_hurt_6 : decode cX3_hurt 6 = .ok (.iload_n 1, 1) := by decide +kernel
theorem dX3_hurt_7 : decode cX3_hurt 7 = .ok (.invokevirtual 126, 3) := by decide +kernel
theorem dX3_hurt_10 : decode cX3_hurt 10 = .ok (.ifCond .eq 13, 3) := by decide +kernel
theorem dX3_hurt_13 : decode cX3_hurt 13 = .ok (.new 50, 3) := by decide +kernel
theorem dX3_hurt_16 : decode cX3_hurt 16 = .ok (.dup, 1) := by decide +kernel
theorem dX3_hurt_17 : decode cX3_hurt 17 = .ok (.ldc 93, 2) := by decide +kernel
theorem dX3_hurt_19 : decode cX3_hurt 19 = .ok (.invokespecial 54, 3) := by decide +kernel
theorem dX3_hurt_22 : decode cX3_hurt 22 = .ok (.athrow, 1) := by decide +kernel
theorem dX3_hurt_23 : decode cX3_hurt 23 = .ok (.aload_n 0, 1) := by decide +kernel
theorem dX3_hurt_24 : decode cX3_hurt 24 = .ok (.getfield 10, 3) := by decide +kernel
theorem dX3_hurt_27 : decode cX3_hurt 27 = .ok (.iload_n 1, 1) := by decide +kernel
theorem dX3_hurt_28 : decode cX3_hurt 28 = .ok (.invokevirtual 85, 3) := by decide +kernel
theorem dX3_hurt_31 : decode cX3_hurt 31 = .ok (.checkcast 61, 3) := by decide +kernel
theorem dX3_hurt_34 : decode cX3_hurt 34 = .ok (.iconst 1, 1) := by decide +kernel
theorem dX3_hurt_35 : decode cX3_hurt 35 = .ok (.putfield 89, 3) := by decide +kernel
theorem dX3_hurt_38 : decode cX3_hurt 38 = .ok (.aload_n 0, 1) := by decide +kernel
theorem dX3_hurt_39 : decode cX3_hurt 39 = .ok (.iload_n 1, 1) := by decide +kernel
theorem dX3_hurt_40 : decode cX3_hurt 40 = .ok (.invokevirtual 210, 3) := by decide +kernel
theorem dX3_hurt_43 : decode cX3_hurt 43 = .ok (.iconst 0, 1) := by decide +kernel
theorem dX3_hurt_44 : decode cX3_hurt 44 = .ok (.istore_n 2, 1) := by decide +kernel
theorem dX3_hurt_45 : decode cX3_hurt 45 = .ok (.iconst 0, 1) := by decide +kernel
theorem dX3_hurt_46 : decode cX3_hurt 46 = .ok (.istore_n 3, 1) := by decide +kernel
theorem dX3_hurt_47 : decode cX3_hurt 47 = .ok (.iload_n 3, 1) := by decide +kernel
theorem dX3_hurt_48 : decode cX3_hurt 48 = .ok (.aload_n 0, 1) := by decide +kernel
theorem dX3_hurt_49 : decode cX3_hurt 49 = .ok (.getfield 16, 3) := by decide +kernel
theorem dX3_hurt_52 : decode cX3_hurt 52 = .ok (.invokevirtual 46, 3) := by decide +kernel
theorem dX3_hurt_55 : decode cX3_hurt 55 = .ok (.if_icmp .ge 49, 3) := by decide +kernel
theorem dX3_hurt_58 : decode cX3_hurt 58 = .ok (.aload_n 0, 1) := by decide +kernel
theorem dX3_hurt_59 : decode cX3_hurt 59 = .ok (.getfield 16, 3) := by decide +kernel
theorem dX3_hurt_62 : decode cX3_hurt 62 = .ok (.iload_n 3, 1) := by decide +kernel
theorem dX3_hurt_63 : decode cX3_hurt 63 = .ok (.invokevirtual 85, 3) := by decide +kernel
theorem dX3_hurt_66 : decode cX3_hurt 66 = .ok (.checkcast 131, 3) := by decide +kernel
theorem dX3_hurt_69 : decode cX3_hurt 69 = .ok (.astore 4, 2) := by decide +kernel
theorem dX3_hurt_71 : decode cX3_hurt 71 = .ok (.aload 4, 2) := by decide +kernel
theorem dX3_hurt_73 : decode cX3_hurt 73 = .ok (.getfield 213, 3) := by decide +kernel
theorem dX3_hurt_76 : decode cX3_hurt 76 = .ok (.ifCond .ne 22, 3) := by decide +kernel
theorem dX3_hurt_79 : decode cX3_hurt 79 = .ok (.aload 4, 2) := by decide +kernel
theorem dX3_hurt_81 : decode cX3_hurt 81 = .ok (.iload_n 1, 1) := by decide +kernel
theorem dX3_hurt_82 : decode cX3_hurt 82 = .ok (.invokevirtual 216, 3) := by decide +kernel
theorem dX3_hurt_85 : decode cX3_hurt 85 = .ok (.ifCond .eq 13, 3) := by decide +kernel
theorem dX3_hurt_88 : decode cX3_hurt 88 = .ok (.iload_n 2, 1) := by decide +kernel
theorem dX3_hurt_89 : decode cX3_hurt 89 = .ok (.aload_n 0, 1) := by decide +kernel
theorem dX3_hurt_90 : decode cX3_hurt 90 = .ok (.aload 4, 2) := by decide +kernel
theorem dX3_hurt_92 : decode cX3_hurt 92 = .ok (.iload_n 1, 1) := by decide +kernel
theorem dX3_hurt_93 : decode cX3_hurt 93 = .ok (.invokevirtual 219, 3) := by decide +kernel
theorem dX3_hurt_96 : decode cX3_hurt 96 = .ok (.iadd, 1) := by decide +kernel
theorem dX3_hurt_97 : decode cX3_hurt 97 = .ok (.istore_n 2, 1) := by decide +kernel
theorem dX3_hurt_98 : decode cX3_hurt 98 = .ok (.iinc 3 1, 3) := by decide +kernel
theorem dX3_hurt_101 : decode cX3_hurt 101 = .ok (.goto (-54), 3) := by decide +kernel
theorem dX3_hurt_104 : decode cX3_hurt 104 = .ok (.iload_n 2, 1) := by decide +kernel
theorem dX3_hurt_105 : decode cX3_hurt 105 = .ok (.ireturn, 1) := by decide +kernel
theorem dX3_needDancer_0 : decode cX3_needDancer 0 = .ok (.iload_n 1, 1) := by decide +kernel
theorem dX3_needDancer_1 : decode cX3_needDancer 1 = .ok (.ifCond .lt 14, 3) := by decide +kernel
theorem dX3_needDancer_4 : decode cX3_needDancer 4 = .ok (.iload_n 1, 1) := by decide +kernel
theorem dX3_needDancer_5 : decode cX3_needDancer 5 = .ok (.aload_n 0, 1) := by decide +kernel
theorem dX3_needDancer_6 : decode cX3_needDancer 6 = .ok (.getfield 10, 3) := by decide +kernel
theorem dX3_needDancer_9 : decode cX3_needDancer 9 = .ok (.invokevirtual 46, 3) := by decide +kernel
theorem dX3_needDancer_12 : decode cX3_needDancer 12 = .ok (.if_icmp .lt 13, 3) := by decide +kernel
theorem dX3_needDancer_15 : decode cX3_needDancer 15 = .ok (.new 39, 3) := by decide +kernel
theorem dX3_needDancer_18 : decode cX3_needDancer 18 = .ok (.dup, 1) := by decide +kernel
theorem dX3_needDancer_19 : decode cX3_needDancer 19 = .ok (.ldc 223, 2) := by decide +kernel
theorem dX3_needDancer_21 : decode cX3_needDancer 21 = .ok (.invokespecial 43, 3) := by decide +kernel
theorem dX3_needDancer_24 : decode cX3_needDancer 24 = .ok (.athrow, 1) := by decide +kernel
theorem dX3_needDancer_25 : decode cX3_needDancer 25 = .ok (.return_, 1) := by decide +kernel
theorem dX3_needCount_0 : decode cX3_needCount 0 = .ok (.iload_n 0, 1) := by decide +kernel
theorem dX3_needCount_1 : decode cX3_needCount 1 = .ok (.ifCond .lt 9, 3) := by decide +kernel
theorem dX3_needCount_4 : decode cX3_needCount 4 = .ok (.iload_n 0, 1) := by decide +kernel
theorem dX3_needCount_5 : decode cX3_needCount 5 = .ok (.bipush 64, 2) := by decide +kernel
theorem dX3_needCount_7 : decode cX3_needCount 7 = .ok (.if_icmp .lt 13, 3) := by decide +kernel
theorem dX3_needCount_10 : decode cX3_needCount 10 = .ok (.new 39, 3) := by decide +kernel
theorem dX3_needCount_13 : decode cX3_needCount 13 = .ok (.dup, 1) := by decide +kernel
theorem dX3_needCount_14 : decode cX3_needCount 14 = .ok (.ldc 225, 2) := by decide +kernel
theorem dX3_needCount_16 : decode cX3_needCount 16 = .ok (.invokespecial 43, 3) := by decide +kernel
theorem dX3_needCount_19 : decode cX3_needCount 19 = .ok (.athrow, 1) := by decide +kernel
theorem dX3_needCount_20 : decode cX3_needCount 20 = .ok (.return_, 1) := by decide +kernel
theorem dX3_needRoom_0 : decode cX3_needRoom 0 = .ok (.iload_n 0, 1) := by decide +kernel
theorem dX3_needRoom_1 : decode cX3_needRoom 1 = .ok (.ifCond .lt 8, 3) := by decide +kernel
theorem dX3_needRoom_4 : decode cX3_needRoom 4 = .ok (.iload_n 0, 1) := by decide +kernel
theorem dX3_needRoom_5 : decode cX3_needRoom 5 = .ok (.iconst 3, 1) := by decide +kernel
theorem dX3_needRoom_6 : decode cX3_needRoom 6 = .ok (.if_icmp .lt 13, 3) := by decide +kernel
theorem dX3_needRoom_9 : decode cX3_needRoom 9 = .ok (.new 39, 3) := by decide +kernel
theorem dX3_needRoom_12 : decode cX3_needRoom 12 = .ok (.dup, 1) := by decide +kernel
theorem dX3_needRoom_13 : decode cX3_needRoom 13 = .ok (.ldc 227, 2) := by decide +kernel
theorem dX3_needRoom_15 : decode cX3_needRoom 15 = .ok (.invokespecial 43, 3) := by decide +kernel
theorem dX3_needRoom_18 : decode cX3_needRoom 18 = .ok (.athrow, 1) := by decide +kernel
theorem dX3_needRoom_19 : decode cX3_needRoom 19 = .ok (.return_, 1) := by decide +kernel
theorem dX3_needHour_0 : decode cX3_needHour 0 = .ok (.iload_n 0, 1) := by decide +kernel
theorem dX3_needHour_1 : decode cX3_needHour 1 = .ok (.bipush 8, 2) := by decide +kernel
theorem dX3_needHour_3 : decode cX3_needHour 3 = .ok (.if_icmp .lt 9, 3) := by decide +kernel
theorem dX3_needHour_6 : decode cX3_needHour 6 = .ok (.iload_n 0, 1) := by decide +kernel
theorem dX3_needHour_7 : decode cX3_needHour 7 = .ok (.bipush 21, 2) := by decide +kernel
theorem dX3_needHour_9 : decode cX3_needHour 9 = .ok (.if_icmp .lt 13, 3) := by decide +kernel
theorem dX3_needHour_12 : decode cX3_needHour 12 = .ok (.new 39, 3) := by decide +kernel
theorem dX3_needHour_15 : decode cX3_needHour 15 = .ok (.dup, 1) := by decide +kernel
theorem dX3_needHour_16 : decode cX3_needHour 16 = .ok (.ldc 229, 2) := by decide +kernel
theorem dX3_needHour_18 : decode cX3_needHour 18 = .ok (.invokespecial 43, 3) := by decide +kernel
theorem dX3_needHour_21 : decode cX3_needHour 21 = .ok (.athrow, 1) := by decide +kernel
theorem dX3_needHour_22 : decode cX3_needHour 22 = .ok (.return_, 1) := by decide +kernel
theorem dX3_isOnStage_0 : decode cX3_isOnStage 0 = .ok (.iload_n 0, 1) := by decide +kernel
theorem dX3_isOnStage_1 : decode cX3_isOnStage 1 = .ok (.ifCond .lt 13, 3) := by decide +kernel
theorem dX3_isOnStage_4 : decode cX3_isOnStage 4 = .ok (.iload_n 0, 1) := by decide +kernel
theorem dX3_isOnStage_5 : decode cX3_isOnStage 5 = .ok (.bipush 8, 2) := by decide +kernel
theorem dX3_isOnStage_7 : decode cX3_isOnStage 7 = .ok (.if_icmp .ge 7, 3) := by decide +kernel
theorem dX3_isOnStage_10 : decode cX3_isOnStage 10 = .ok (.iconst 1, 1) := by decide +kernel
theorem dX3_isOnStage_11 : decode cX3_isOnStage 11 = .ok (.goto 4, 3) := by decide +kernel
theorem dX3_isOnStage_14 : decode cX3_isOnStage 14 = .ok (.iconst 0, 1) := by decide +kernel
theorem dX3_isOnStage_15 : decode cX3_isOnStage 15 = .ok (.ireturn, 1) := by decide +kernel
theorem dX3_isMove_0 : decode cX3_isMove 0 = .ok (.iload_n 0, 1) := by decide +kernel
theorem dX3_isMove_1 : decode cX3_isMove 1 = .ok (.bipush (-2), 2) := by decide +kernel
theorem dX3_isMove_3 : decode cX3_isMove 3 = .ok (.if_icmp .lt 12, 3) := by decide +kernel
theorem dX3_isMove_6 : decode cX3_isMove 6 = .ok (.iload_n 0, 1) := by decide +kernel
theorem dX3_isMove_7 : decode cX3_isMove 7 = .ok (.iconst 2, 1) := by decide +kernel
theorem dX3_isMove_8 : decode cX3_isMove 8 = .ok (.if_icmp .gt 7, 3) := by decide +kernel
theorem dX3_isMove_11 : decode cX3_isMove 11 = .ok (.iconst 1, 1) := by decide +kernel
theorem dX3_isMove_12 : decode cX3_isMove 12 = .ok (.goto 4, 3) := by decide +kernel
theorem dX3_isMove_15 : decode cX3_isMove 15 = .ok (.iconst 0, 1) := by decide +kernel
theorem dX3_isMove_16 : decode cX3_isMove 16 = .ok (.ireturn, 1) := by decide +kernel
theorem dX3_isFirstPlace_0 : decode cX3_isFirstPlace 0 = .ok (.iconst 0, 1) := by decide +kernel
theorem dX3_isFirstPlace_1 : decode cX3_isFirstPlace 1 = .ok (.istore_n 3, 1) := by decide +kernel
theorem dX3_isFirstPlace_2 : decode cX3_isFirstPlace 2 = .ok (.iload_n 3, 1) := by decide +kernel
theorem dX3_isFirstPlace_3 : decode cX3_isFirstPlace 3 = .ok (.aload_n 0, 1) := by decide +kernel
theorem dX3_isFirstPlace_4 : decode cX3_isFirstPlace 4 = .ok (.getfield 10, 3) := by decide +kernel
theorem dX3_isFirstPlace_7 : decode cX3_isFirstPlace 7 = .ok (.invokevirtual 46, 3) := by decide +kernel
theorem dX3_isFirstPlace_10 : decode cX3_isFirstPlace 10 = .ok (.if_icmp .ge 48, 3) := by decide +kernel
theorem dX3_isFirstPlace_13 : decode cX3_isFirstPlace 13 = .ok (.aload_n 0, 1) := by decide +kernel
theorem dX3_isFirstPlace_14 : decode cX3_isFirstPlace 14 = .ok (.getfield 10, 3) := by decide +kernel
theorem dX3_isFirstPlace_17 : decode cX3_isFirstPlace 17 = .ok (.iload_n 3, 1) := by decide +kernel
theorem dX3_isFirstPlace_18 : decode cX3_isFirstPlace 18 = .ok (.invokevirtual 85, 3) := by decide +kernel
theorem dX3_isFirstPlace_21 : decode cX3_isFirstPlace 21 = .ok (.checkcast 61, 3) := by decide +kernel
theorem dX3_isFirstPlace_24 : decode cX3_isFirstPlace 24 = .ok (.astore 4, 2) := by decide +kernel
theorem dX3_isFirstPlace_26 : decode cX3_isFirstPlace 26 = .ok (.aload 4, 2) := by decide +kernel
theorem dX3_isFirstPlace_28 : decode cX3_isFirstPlace 28 = .ok (.getfield 95, 3) := by decide +kernel
theorem dX3_isFirstPlace_31 : decode cX3_isFirstPlace 31 = .ok (.getfield 231, 3) := by decide +kernel
theorem dX3_isFirstPlace_34 : decode cX3_isFirstPlace 34 = .ok (.iload_n 1, 1) := by decide +kernel
theorem dX3_isFirstPlace_35 : decode cX3_isFirstPlace 35 = .ok (.if_icmp .ne 17, 3) := by decide +kernel
theorem dX3_isFirstPlace_38 : decode cX3_isFirstPlace 38 = .ok (.aload 4, 2) := by decide +kernel
theorem dX3_isFirstPlace_40 : decode cX3_isFirstPlace 40 = .ok (.getfield 104, 3) := by decide +kernel
theorem dX3_isFirstPlace_43 : decode cX3_isFirstPlace 43 = .ok (.getfield 231, 3) := by decide +kernel
theorem dX3_isFirstPlace_46 : decode cX3_isFirstPlace 46 = .ok (.iload_n 2, 1) := by decide +kernel
theorem dX3_isFirstPlace_47 : decode cX3_isFirstPlace 47 = .ok (.if_icmp .ne 5, 3) := by decide +kernel
theorem dX3_isFirstPlace_50 : decode cX3_isFirstPlace 50 = .ok (.iconst 1, 1) := by decide +kernel
theorem dX3_isFirstPlace_51 : decode cX3_isFirstPlace 51 = .ok (.ireturn, 1) := by decide +kernel
theorem dX3_isFirstPlace_52 : decode cX3_isFirstPlace 52 = .ok (.iinc 3 1, 3) := by decide +kernel
theorem dX3_isFirstPlace_55 : decode cX3_isFirstPlace 55 = .ok (.goto (-53), 3) := by decide +kernel
theorem dX3_isFirstPlace_58 : decode cX3_isFirstPlace 58 = .ok (.iconst 0, 1) := by decide +kernel
theorem dX3_isFirstPlace_59 : decode cX3_isFirstPlace 59 = .ok (.ireturn, 1) := by decide +kernel
theorem dX3_isOut_0 : decode cX3_isOut 0 = .ok (.aload_n 0, 1) := by decide +kernel
theorem dX3_isOut_1 : decode cX3_isOut 1 = .ok (.getfield 10, 3) := by decide +kernel
theorem dX3_isOut_4 : decode cX3_isOut 4 = .ok (.iload_n 1, 1) := by decide +kernel
theorem dX3_isOut_5 : decode cX3_isOut 5 = .ok (.invokevirtual 85, 3) := by decide +kernel
theorem dX3_isOut_8 : decode cX3_isOut 8 = .ok (.checkcast 61, 3) := by decide +kernel
theorem dX3_isOut_11 : decode cX3_isOut 11 = .ok (.getfield 89, 3) := by decide +kernel
theorem dX3_isOut_14 : decode cX3_isOut 14 = .ok (.ireturn, 1) := by decide +kernel
theorem dX3_clashesAt_0 : decode cX3_clashesAt 0 = .ok (.iconst 0, 1) := by decide +kernel
theorem dX3_clashesAt_1 : decode cX3_clashesAt 1 = .ok (.istore_n 2, 1) := by decide +kernel
theorem dX3_clashesAt_2 : decode cX3_clashesAt 2 = .ok (.iconst 0, 1) := by decide +kernel
theorem dX3_clashesAt_3 : decode cX3_clashesAt 3 = .ok (.istore_n 3, 1) := by decide +kernel
theorem dX3_clashesAt_4 : decode cX3_clashesAt 4 = .ok (.iload_n 3, 1) := by decide +kernel
theorem dX3_clashesAt_5 : decode cX3_clashesAt 5 = .ok (.aload_n 0, 1) := by decide +kernel
theorem dX3_clashesAt_6 : decode cX3_clashesAt 6 = .ok (.getfield 10, 3) := by decide +kernel
theorem dX3_clashesAt_9 : decode cX3_clashesAt 9 = .ok (.invokevirtual 46, 3) := by decide +kernel
theorem dX3_clashesAt_12 : decode cX3_clashesAt 12 = .ok (.if_icmp .ge 96, 3) := by decide +kernel
theorem dX3_clashesAt_15 : decode cX3_clashesAt 15 = .ok (.aload_n 0, 1) := by decide +kernel
theorem dX3_clashesAt_16 : decode cX3_clashesAt 16 = .ok (.getfield 10, 3) := by decide +kernel
theorem dX3_clashesAt_19 : decode cX3_clashesAt 19 = .ok (.iload_n 3, 1) := by decide +kernel
theorem dX3_clashesAt_20 : decode cX3_clashesAt 20 = .ok (.invokevirtual 85, 3) := by decide +kernel
theorem dX3_clashesAt_23 : decode cX3_clashesAt 23 = .ok (.checkcast 61, 3) := by decide +kernel
theorem dX3_clashesAt_26 : decode cX3_clashesAt 26 = .ok (.astore 4, 2) := by decide +kernel
theorem dX3_clashesAt_28 : decode cX3_clashesAt 28 = .ok (.aload 4, 2) := by decide +kernel
theorem dX3_clashesAt_30 : decode cX3_clashesAt 30 = .ok (.iload_n 1, 1) := by decide +kernel
theorem dX3_clashesAt_31 : decode cX3_clashesAt 31 = .ok (.invokevirtual 234, 3) := by decide +kernel
theorem dX3_clashesAt_34 : decode cX3_clashesAt 34 = .ok (.ifCond .eq 6, 3) := by decide +kernel
theorem dX3_clashesAt_37 : decode cX3_clashesAt 37 = .ok (.iinc 2 1, 3) := by decide +kernel
theorem dX3_clashesAt_40 : decode cX3_clashesAt 40 = .ok (.iload_n 3, 1) := by decide +kernel
theorem dX3_clashesAt_41 : decode cX3_clashesAt 41 = .ok (.iconst 1, 1) := by decide +kernel
theorem dX3_clashesAt_42 : decode cX3_clashesAt 42 = .ok (.iadd, 1) := by decide +kernel
theorem dX3_clashesAt_43 : decode cX3_clashesAt 43 = .ok (.istore 5, 2) := by decide +kernel
theorem dX3_clashesAt_45 : decode cX3_clashesAt 45 = .ok (.iload 5, 2) := by decide +kernel
theorem dX3_clashesAt_47 : decode cX3_clashesAt 47 = .ok (.aload_n 0, 1) := by decide +kernel
theorem dX3_clashesAt_48 : decode cX3_clashesAt 48 = .ok (.getfield 10, 3) := by decide +kernel
theorem dX3_clashesAt_51 : decode cX3_clashesAt 51 = .ok (.invokevirtual 46, 3) := by decide +kernel
theorem dX3_clashesAt_54 : decode cX3_clashesAt 54 = .ok (.if_icmp .ge 48, 3) := by decide +kernel
theorem dX3_clashesAt_57 : decode cX3_clashesAt 57 = .ok (.aload_n 0, 1) := by decide +kernel
theorem dX3_clashesAt_58 : decode cX3_clashesAt 58 = .ok (.getfield 10, 3) := by decide +kernel
theorem dX3_clashesAt_61 : decode cX3_clashesAt 61 = .ok (.iload 5, 2) := by decide +kernel
theorem dX3_clashesAt_63 : decode cX3_clashesAt 63 = .ok (.invokevirtual 85, 3) := by decide +kernel
theorem dX3_clashesAt_66 : decode cX3_clashesAt 66 = .ok (.checkcast 61, 3) := by decide +kernel
theorem dX3_clashesAt_69 : decode cX3_clashesAt 69 = .ok (.astore 6, 2) := by decide +kernel
theorem dX3_clashesAt_71 : decode cX3_clashesAt 71 = .ok (.aload 4, 2) := by decide +kernel
theorem dX3_clashesAt_73 : decode cX3_clashesAt 73 = .ok (.aload 6, 2) := by decide +kernel
theorem dX3_clashesAt_75 : decode cX3_clashesAt 75 = .ok (.iload_n 1, 1) := by decide +kernel
theorem dX3_clashesAt_76 : decode cX3_clashesAt 76 = .ok (.invokevirtual 237, 3) := by decide +kernel
theorem dX3_clashesAt_79 : decode cX3_clashesAt 79 = .ok (.ifCond .ne 14, 3) := by decide +kernel
theorem dX3_clashesAt_82 : decode cX3_clashesAt 82 = .ok (.aload 4, 2) := by decide +kernel
theorem dX3_clashesAt_84 : decode cX3_clashesAt 84 = .ok (.aload 6, 2) := by decide +kernel
theorem dX3_clashesAt_86 : decode cX3_clashesAt 86 = .ok (.iload_n 1, 1) := by decide +kernel
theorem dX3_clashesAt_87 : decode cX3_clashesAt 87 = .ok (.invokevirtual 241, 3) := by decide +kernel
theorem dX3_clashesAt_90 : decode cX3_clashesAt 90 = .ok (.ifCond .eq 6, 3) := by decide +kernel
theorem dX3_clashesAt_93 : decode cX3_clashesAt 93 = .ok (.iinc 2 1, 3) := by decide +kernel
theorem dX3_clashesAt_96 : decode cX3_clashesAt 96 = .ok (.iinc 5 1, 3) := by decide +kernel
theorem dX3_clashesAt_99 : decode cX3_clashesAt 99 = .ok (.goto (-54), 3) := by decide +kernel
theorem dX3_clashesAt_102 : decode cX3_clashesAt 102 = .ok (.iinc 3 1, 3) := by decide +kernel
theorem dX3_clashesAt_105 : decode cX3_clashesAt 105 = .ok (.goto (-101), 3) := by decide +kernel
theorem dX3_clashesAt_108 : decode cX3_clashesAt 108 = .ok (.iload_n 2, 1) := by decide +kernel
theorem dX3_clashesAt_109 : decode cX3_clashesAt 109 = .ok (.ireturn, 1) := by decide +kernel
theorem dX3_liftsWith_0 : decode cX3_liftsWith 0 = .ok (.iconst 0, 1) := by decide +kernel
theorem dX3_liftsWith_1 : decode cX3_liftsWith 1 = .ok (.istore 4, 2) := by decide +kernel
theorem dX3_liftsWith_3 : decode cX3_liftsWith 3 = .ok (.iconst 0, 1) := by decide +kernel
theorem dX3_liftsWith_4 : decode cX3_liftsWith 4 = .ok (.istore 5, 2) := by decide +kernel
theorem dX3_liftsWith_6 : decode cX3_liftsWith 6 = .ok (.iload 5, 2) := by decide +kernel
theorem dX3_liftsWith_8 : decode cX3_liftsWith 8 = .ok (.aload_n 0, 1) := by decide +kernel
theorem dX3_liftsWith_9 : decode cX3_liftsWith 9 = .ok (.getfield 16, 3) := by decide +kernel
theorem dX3_liftsWith_12 : decode cX3_liftsWith 12 = .ok (.invokevirtual 46, 3) := by decide +kernel
theorem dX3_liftsWith_15 : decode cX3_liftsWith 15 = .ok (.if_icmp .ge 61, 3) := by decide +kernel
theorem dX3_liftsWith_18 : decode cX3_liftsWith 18 = .ok (.aload_n 0, 1) := by decide +kernel
theorem dX3_liftsWith_19 : decode cX3_liftsWith 19 = .ok (.getfield 16, 3) := by decide +kernel
theorem dX3_liftsWith_22 : decode cX3_liftsWith 22 = .ok (.iload 5, 2) := by decide +kernel
theorem dX3_liftsWith_24 : decode cX3_liftsWith 24 = .ok (.invokevirtual 85, 3) := by decide +kernel
theorem dX3_liftsWith_27 : decode cX3_liftsWith 27 = .ok (.checkcast 131, 3) := by decide +kernel
theorem dX3_liftsWith_30 : decode cX3_liftsWith 30 = .ok (.astore 6, 2) := by decide +kernel
theorem dX3_liftsWith_32 : decode cX3_liftsWith 32 = .ok (.aload 6, 2) := by decide +kernel
theorem dX3_liftsWith_34 : decode cX3_liftsWith 34 = .ok (.getfield 213, 3) := by decide +kernel
theorem dX3_liftsWith_37 : decode cX3_liftsWith 37 = .ok (.ifCond .ne 33, 3) := by decide +kernel
theorem dX3_liftsWith_40 : decode cX3_liftsWith 40 = .ok (.aload 6, 2) := by decide +kernel
theorem dX3_liftsWith_42 : decode cX3_liftsWith 42 = .ok (.getfield 140, 3) := by decide +kernel
theorem dX3_liftsWith_45 : decode cX3_liftsWith 45 = .ok (.iload_n 2, 1) := by decide +kernel
theorem dX3_liftsWith_46 : decode cX3_liftsWith 46 = .ok (.if_icmp .lt 24, 3) := by decide +kernel
theorem dX3_liftsWith_49 : decode cX3_liftsWith 49 = .ok (.aload 6, 2) := by decide +kernel
theorem dX3_liftsWith_51 : decode cX3_liftsWith 51 = .ok (.getfield 140, 3) := by decide +kernel
theorem dX3_liftsWith_54 : decode cX3_liftsWith 54 = .ok (.iload_n 3, 1) := by decide +kernel
theorem dX3_liftsWith_55 : decode cX3_liftsWith 55 = .ok (.if_icmp .gt 15, 3) := by decide +kernel
theorem dX3_liftsWith_58 : decode cX3_liftsWith 58 = .ok (.aload 6, 2) := by decide +kernel
theorem dX3_liftsWith_60 : decode cX3_liftsWith 60 = .ok (.iload_n 1, 1) := by decide +kernel
theorem dX3_liftsWith_61 : decode cX3_liftsWith 61 = .ok (.invokevirtual 244, 3) := by decide +kernel
theorem dX3_liftsWith_64 : decode cX3_liftsWith 64 = .ok (.ifCond .eq 6, 3) := by decide +kernel
theorem dX3_liftsWith_67 : decode cX3_liftsWith 67 = .ok (.iinc 4 1, 3) := by decide +kernel
theorem dX3_liftsWith_70 : decode cX3_liftsWith 70 = .ok (.iinc 5 1, 3) := by decide +kernel
theorem dX3_liftsWith_73 : decode cX3_liftsWith 73 = .ok (.goto (-67), 3) := by decide +kernel
theorem dX3_liftsWith_76 : decode cX3_liftsWith 76 = .ok (.iload 4, 2) := by decide +kernel
theorem dX3_liftsWith_78 : decode cX3_liftsWith 78 = .ok (.ireturn, 1) := by decide +kernel
theorem dX3_stateOf_0 : decode cX3_stateOf 0 = .ok (.aload_n 1, 1) := by decide +kernel
theorem dX3_stateOf_1 : decode cX3_stateOf 1 = .ok (.getfield 213, 3) := by decide +kernel
theorem dX3_stateOf_4 : decode cX3_stateOf 4 = .ok (.ifCond .eq 5, 3) := by decide +kernel
theorem dX3_stateOf_7 : decode cX3_stateOf 7 = .ok (.iconst 2, 1) := by decide +kernel
theorem dX3_stateOf_8 : decode cX3_stateOf 8 = .ok (.ireturn, 1) := by decide +kernel
theorem dX3_stateOf_9 : decode cX3_stateOf 9 = .ok (.aload_n 0, 1) := by decide +kernel
theorem dX3_stateOf_10 : decode cX3_stateOf 10 = .ok (.aload_n 1, 1) := by decide +kernel
theorem dX3_stateOf_11 : decode cX3_stateOf 11 = .ok (.aload_n 1, 1) := by decide +kernel
theorem dX3_stateOf_12 : decode cX3_stateOf 12 = .ok (.getfield 143, 3) := by decide +kernel
theorem dX3_stateOf_15 : decode cX3_stateOf 15 = .ok (.invokevirtual 247, 3) := by decide +kernel
theorem dX3_stateOf_18 : decode cX3_stateOf 18 = .ok (.ifCond .eq 55, 3) := by decide +kernel
theorem dX3_stateOf_21 : decode cX3_stateOf 21 = .ok (.aload_n 0, 1) := by decide +kernel
theorem dX3_stateOf_22 : decode cX3_stateOf 22 = .ok (.aload_n 1, 1) := by decide +kernel
theorem dX3_stateOf_23 : decode cX3_stateOf 23 = .ok (.aload_n 1, 1) := by decide +kernel
theorem dX3_stateOf_24 : decode cX3_stateOf 24 = .ok (.getfield 146, 3) := by decide +kernel
theorem dX3_stateOf_27 : decode cX3_stateOf 27 = .ok (.invokevirtual 247, 3) := by decide +kernel
theorem dX3_stateOf_30 : decode cX3_stateOf 30 = .ok (.ifCond .eq 43, 3) := by decide +kernel
theorem dX3_stateOf_33 : decode cX3_stateOf 33 = .ok (.aload_n 0, 1) := by decide +kernel
theorem dX3_stateOf_34 : decode cX3_stateOf 34 = .ok (.aload_n 1, 1) := by decide +kernel
theorem dX3_stateOf_35 : decode cX3_stateOf 35 = .ok (.aload_n 1, 1) := by decide +kernel
theorem dX3_stateOf_36 : decode cX3_stateOf 36 = .ok (.getfield 149, 3) := by decide +kernel
theorem dX3_stateOf_39 : decode cX3_stateOf 39 = .ok (.invokevirtual 247, 3) := by decide +kernel
theorem dX3_stateOf_42 : decode cX3_stateOf 42 = .ok (.ifCond .eq 31, 3) := by decide +kernel
theorem dX3_stateOf_45 : decode cX3_stateOf 45 = .ok (.aload_n 0, 1) := by decide +kernel
theorem dX3_stateOf_46 : decode cX3_stateOf 46 = .ok (.aload_n 1, 1) := by decide +kernel
theorem dX3_stateOf_47 : decode cX3_stateOf 47 = .ok (.aload_n 1, 1) := by decide +kernel
theorem dX3_stateOf_48 : decode cX3_stateOf 48 = .ok (.getfield 146, 3) := by decide +kernel
theorem dX3_stateOf_51 : decode cX3_stateOf 51 = .ok (.invokevirtual 251, 3) := by decide +kernel
theorem dX3_stateOf_54 : decode cX3_stateOf 54 = .ok (.ifCond .eq 19, 3) := by decide +kernel
theorem dX3_stateOf_57 : decode cX3_stateOf 57 = .ok (.aload_n 0, 1) := by decide +kernel
theorem dX3_stateOf_58 : decode cX3_stateOf 58 = .ok (.aload_n 1, 1) := by decide +kernel
theorem dX3_stateOf_59 : decode cX3_stateOf 59 = .ok (.aload_n 1, 1) := by decide +kernel
theorem dX3_stateOf_60 : decode cX3_stateOf 60 = .ok (.getfield 149, 3) := by decide +kernel
theorem dX3_stateOf_63 : decode cX3_stateOf 63 = .ok (.invokevirtual 251, 3) := by decide +kernel
theorem dX3_stateOf_66 : decode cX3_stateOf 66 = .ok (.ifCond .eq 7, 3) := by decide +kernel
theorem dX3_stateOf_69 : decode cX3_stateOf 69 = .ok (.iconst 1, 1) := by decide +kernel
theorem dX3_stateOf_70 : decode cX3_stateOf 70 = .ok (.goto 4, 3) := by decide +kernel
theorem dX3_stateOf_73 : decode cX3_stateOf 73 = .ok (.iconst 0, 1) := by decide +kernel
theorem dX3_stateOf_74 : decode cX3_stateOf 74 = .ok (.istore_n 2, 1) := by decide +kernel
theorem dX3_stateOf_75 : decode cX3_stateOf 75 = .ok (.iload_n 2, 1) := by decide +kernel
theorem dX3_stateOf_76 : decode cX3_stateOf 76 = .ok (.ifCond .eq 7, 3) := by decide +kernel
theorem dX3_stateOf_79 : decode cX3_stateOf 79 = .ok (.iconst 1, 1) := by decide +kernel
theorem dX3_stateOf_80 : decode cX3_stateOf 80 = .ok (.goto 4, 3) := by decide +kernel
theorem dX3_stateOf_83 : decode cX3_stateOf 83 = .ok (.iconst 0, 1) := by decide +kernel
theorem dX3_stateOf_84 : decode cX3_stateOf 84 = .ok (.ireturn, 1) := by decide +kernel
theorem dX3_isFreeFor_0 : decode cX3_isFreeFor 0 = .ok (.aload_n 0, 1) := by decide +kernel
theorem dX3_isFreeFor_1 : decode cX3_isFreeFor 1 = .ok (.iload_n 2, 1) := by decide +kernel
theorem dX3_isFreeFor_2 : decode cX3_isFreeFor 2 = .ok (.invokevirtual 126, 3) := by decide +kernel
theorem dX3_isFreeFor_5 : decode cX3_isFreeFor 5 = .ok (.ifCond .ne 24, 3) := by decide +kernel
theorem dX3_isFreeFor_8 : decode cX3_isFreeFor 8 = .ok (.aload_n 0, 1) := by decide +kernel
theorem dX3_isFreeFor_9 : decode cX3_isFreeFor 9 = .ok (.iload_n 2, 1) := by decide +kernel
theorem dX3_isFreeFor_10 : decode cX3_isFreeFor 10 = .ok (.aload_n 1, 1) := by decide +kernel
theorem dX3_isFreeFor_11 : decode cX3_isFreeFor 11 = .ok (.getfield 140, 3) := by decide +kernel
theorem dX3_isFreeFor_14 : decode cX3_isFreeFor 14 = .ok (.aload_n 1, 1) := by decide +kernel
theorem dX3_isFreeFor_15 : decode cX3_isFreeFor 15 = .ok (.getfield 140, 3) := by decide +kernel
theorem dX3_isFreeFor_18 : decode cX3_isFreeFor 18 = .ok (.invokevirtual 254, 3) := by decide +kernel
theorem dX3_isFreeFor_21 : decode cX3_isFreeFor 21 = .ok (.iconst 1, 1) := by decide +kernel
theorem dX3_isFreeFor_22 : decode cX3_isFreeFor 22 = .ok (.if_icmp .ne 7, 3) := by decide +kernel
theorem dX3_isFreeFor_25 : decode cX3_isFreeFor 25 = .ok (.iconst 1, 1) := by decide +kernel
theorem dX3_isFreeFor_26 : decode cX3_isFreeFor 26 = .ok (.goto 4, 3) := by decide +kernel
theorem dX3_isFreeFor_29 : decode cX3_isFreeFor 29 = .ok (.iconst 0, 1) := by decide +kernel
theorem dX3_isFreeFor_30 : decode cX3_isFreeFor 30 = .ok (.ireturn, 1) := by decide +kernel
theorem dX3_isBesideLifted_0 : decode cX3_isBesideLifted 0 = .ok (.aload_n 0, 1) := by decide +kernel
theorem dX3_isBesideLifted_1 : decode cX3_isBesideLifted 1 = .ok (.getfield 10, 3) := by decide +kernel
theorem dX3_isBesideLifted_4 : decode cX3_isBesideLifted 4 = .ok (.iload_n 2, 1) := by decide +kernel
theorem dX3_isBesideLifted_5 : decode cX3_isBesideLifted 5 = .ok (.invokevirtual 85, 3) := by decide +kernel
theorem dX3_isBesideLifted_8 : decode cX3_isBesideLifted 8 = .ok (.checkcast 61, 3) := by decide +kernel
theorem dX3_isBesideLifted_11 : decode cX3_isBesideLifted 11 = .ok (.aload_n 0, 1) := by decide +kernel
theorem dX3_isBesideLifted_12 : decode cX3_isBesideLifted 12 = .ok (.getfield 10, 3) := by decide +kernel
theorem dX3_isBesideLifted_15 : decode cX3_isBesideLifted 15 = .ok (.aload_n 1, 1) := by decide +kernel
theorem dX3_isBesideLifted_16 : decode cX3_isBesideLifted 16 = .ok (.getfield 143, 3) := by decide +kernel
theorem dX3_isBesideLifted_19 : decode cX3_isBesideLifted 19 = .ok (.invokevirtual 85, 3) := by decide +kernel
theorem dX3_isBesideLifted_22 : decode cX3_isBesideLifted 22 = .ok (.checkcast 61, 3) := by decide +kernel
theorem dX3_isBesideLifted_25 : decode cX3_isBesideLifted 25 = .ok (.aload_n 1, 1) := by decide +kernel
theorem dX3_isBesideLifted_26 : decode cX3_isBesideLifted 26 = .ok (.getfield 140, 3) := by decide +kernel
theorem dX3_isBesideLifted_29 : decode cX3_isBesideLifted 29 = .ok (.invokevirtual 258, 3) := by decide +kernel
theorem dX3_isBesideLifted_32 : decode cX3_isBesideLifted 32 = .ok (.ireturn, 1) := by decide +kernel
theorem dX3_lastOf_0 : decode cX3_lastOf 0 = .ok (.iload_n 1, 1) := by decide +kernel
theorem dX3_lastOf_1 : decode cX3_lastOf 1 = .ok (.istore_n 2, 1) := by decide +kernel
theorem dX3_lastOf_2 : decode cX3_lastOf 2 = .ok (.iload_n 2, 1) := by decide +kernel
theorem dX3_lastOf_3 : decode cX3_lastOf 3 = .ok (.ifCond .le 18, 3) := by decide +kernel
theorem dX3_lastOf_6 : decode cX3_lastOf 6 = .ok (.aload_n 0, 1) := by decide +kernel
theorem dX3_lastOf_7 : decode cX3_lastOf 7 = .ok (.getfield 19, 3) := by decide +kernel
theorem dX3_lastOf_10 : decode cX3_lastOf 10 = .ok (.iload_n 2, 1) := by decide +kernel
theorem dX3_lastOf_11 : decode cX3_lastOf 11 = .ok (.iaload, 1) := by decide +kernel
theorem dX3_lastOf_12 : decode cX3_lastOf 12 = .ok (.ifCond .ne 9, 3) := by decide +kernel
theorem dX3_lastOf_15 : decode cX3_lastOf 15 = .ok (.iinc 2 (-1), 3) := by decide +kernel
theorem dX3_lastOf_18 : decode cX3_lastOf 18 = .ok (.goto (-16), 3) := by decide +kernel
theorem dX3_lastOf_21 : decode cX3_lastOf 21 = .ok (.aload_n 0, 1) := by decide +kernel
theorem dX3_lastOf_22 : decode cX3_lastOf 22 = .ok (.getfield 19, 3) := by decide +kernel
theorem dX3_lastOf_25 : decode cX3_lastOf 25 = .ok (.iload_n 2, 1) := by decide +kernel
theorem dX3_lastOf_26 : decode cX3_lastOf 26 = .ok (.iaload, 1) := by decide +kernel
theorem dX3_lastOf_27 : decode cX3_lastOf 27 = .ok (.ireturn, 1) := by decide +kernel
theorem dX3_lastsAheadOf_0 : decode cX3_lastsAheadOf 0 = .ok (.lconst 0, 1) := by decide +kernel
theorem dX3_lastsAheadOf_1 : decode cX3_lastsAheadOf 1 = .ok (.lstore_n 2, 1) := by decide +kernel
theorem dX3_lastsAheadOf_2 : decode cX3_lastsAheadOf 2 = .ok (.sipush 500, 3) := by decide +kernel
theorem dX3_lastsAheadOf_5 : decode cX3_lastsAheadOf 5 = .ok (.istore 4, 2) := by decide +kernel
theorem dX3_lastsAheadOf_7 : decode cX3_lastsAheadOf 7 = .ok (.iconst 0, 1) := by decide +kernel
theorem dX3_lastsAheadOf_8 : decode cX3_lastsAheadOf 8 = .ok (.istore 5, 2) := by decide +kernel
theorem dX3_lastsAheadOf_10 : decode cX3_lastsAheadOf 10 = .ok (.iload 5, 2) := by decide +kernel
theorem dX3_lastsAheadOf_12 : decode cX3_lastsAheadOf 12 = .ok (.iload_n 1, 1) := by decide +kernel
theorem dX3_lastsAheadOf_13 : decode cX3_lastsAheadOf 13 = .ok (.if_icmp .ge 34, 3) := by decide +kernel
theorem dX3_lastsAheadOf_16 : decode cX3_lastsAheadOf 16 = .ok (.aload_n 0, 1) := by decide +kernel
theorem dX3_lastsAheadOf_17 : decode cX3_lastsAheadOf 17 = .ok (.getfield 19, 3) := by decide +kernel
theorem dX3_lastsAheadOf_20 : decode cX3_lastsAheadOf 20 = .ok (.iload 5, 2) := by decide +kernel
theorem dX3_lastsAheadOf_22 : decode cX3_lastsAheadOf 22 = .ok (.iaload, 1) := by decide +kernel
theorem dX3_lastsAheadOf_23 : decode cX3_lastsAheadOf 23 = .ok (.ifCond .eq 12, 3) := by decide +kernel
theorem dX3_lastsAheadOf_26 : decode cX3_lastsAheadOf 26 = .ok (.aload_n 0, 1) := by decide +kernel
theorem dX3_lastsAheadOf_27 : decode cX3_lastsAheadOf 27 = .ok (.getfield 19, 3) := by decide +kernel
theorem dX3_lastsAheadOf_30 : decode cX3_lastsAheadOf 30 = .ok (.iload 5, 2) := by decide +kernel
theorem dX3_lastsAheadOf_32 : decode cX3_lastsAheadOf 32 = .ok (.iaload, 1) := by decide +kernel
theorem dX3_lastsAheadOf_33 : decode cX3_lastsAheadOf 33 = .ok (.istore 4, 2) := by decide +kernel
theorem dX3_lastsAheadOf_35 : decode cX3_lastsAheadOf 35 = .ok (.lload_n 2, 1) := by decide +kernel
theorem dX3_lastsAheadOf_36 : decode cX3_lastsAheadOf 36 = .ok (.iload 4, 2) := by decide +kernel
theorem dX3_lastsAheadOf_38 : decode cX3_lastsAheadOf 38 = .ok (.i2l, 1) := by decide +kernel
theorem dX3_lastsAheadOf_39 : decode cX3_lastsAheadOf 39 = .ok (.ladd, 1) := by decide +kernel
theorem dX3_lastsAheadOf_40 : decode cX3_lastsAheadOf 40 = .ok (.lstore_n 2, 1) := by decide +kernel
theorem dX3_lastsAheadOf_41 : decode cX3_lastsAheadOf 41 = .ok (.iinc 5 1, 3) := by decide +kernel
theorem dX3_lastsAheadOf_44 : decode cX3_lastsAheadOf 44 = .ok (.goto (-34), 3) := by decide +kernel
theorem dX3_lastsAheadOf_47 : decode cX3_lastsAheadOf 47 = .ok (.lload_n 2, 1) := by decide +kernel
theorem dX3_lastsAheadOf_48 : decode cX3_lastsAheadOf 48 = .ok (.lreturn, 1) := by decide +kernel
theorem dX3_freeRooms_0 : decode cX3_freeRooms 0 = .ok (.iconst 0, 1) := by decide +kernel
theorem dX3_freeRooms_1 : decode cX3_freeRooms 1 = .ok (.istore_n 1, 1) := by decide +kernel
theorem dX3_freeRooms_2 : decode cX3_freeRooms 2 = .ok (.iload_n 1, 1) := by decide +kernel
theorem dX3_freeRooms_3 : decode cX3_freeRooms 3 = .ok (.iconst 3, 1) := by decide +kernel
theorem dX3_freeRooms_4 : decode cX3_freeRooms 4 = .ok (.if_icmp .ge 19, 3) := by decide +kernel
theorem dX3_freeRooms_7 : decode cX3_freeRooms 7 = .ok (.aload_n 0, 1) := by decide +kernel
theorem dX3_freeRooms_8 : decode cX3_freeRooms 8 = .ok (.getfield 25, 3) := by decide +kernel
theorem dX3_freeRooms_11 : decode cX3_freeRooms 11 = .ok (.iload_n 1, 1) := by decide +kernel
theorem dX3_freeRooms_12 : decode cX3_freeRooms 12 = .ok (.aaload, 1) := by decide +kernel
theorem dX3_freeRooms_13 : decode cX3_freeRooms 13 = .ok (.iconst (-1), 1) := by decide +kernel
theorem dX3_freeRooms_14 : decode cX3_freeRooms 14 = .ok (.invokestatic 261, 3) := by decide +kernel
theorem dX3_freeRooms_17 : decode cX3_freeRooms 17 = .ok (.iinc 1 1, 3) := by decide +kernel
theorem dX3_freeRooms_20 : decode cX3_freeRooms 20 = .ok (.goto (-18), 3) := by decide +kernel
theorem dX3_freeRooms_23 : decode cX3_freeRooms 23 = .ok (.return_, 1) := by decide +kernel
theorem dX3_takesPart_0 : decode cX3_takesPart 0 = .ok (.iload_n 0, 1) := by decide +kernel
theorem dX3_takesPart_1 : decode cX3_takesPart 1 = .ok (.iload_n 1, 1) := by decide +kernel
theorem dX3_takesPart_2 : decode cX3_takesPart 2 = .ok (.ishr, 1) := by decide +kernel
theorem dX3_takesPart_3 : decode cX3_takesPart 3 = .ok (.iconst 1, 1) := by decide +kernel
theorem dX3_takesPart_4 : decode cX3_takesPart 4 = .ok (.iand, 1) := by decide +kernel
theorem dX3_takesPart_5 : decode cX3_takesPart 5 = .ok (.ifCond .eq 7, 3) := by decide +kernel
theorem dX3_takesPart_8 : decode cX3_takesPart 8 = .ok (.iconst 1, 1) := by decide +kernel
theorem dX3_takesPart_9 : decode cX3_takesPart 9 = .ok (.goto 4, 3) := by decide +kernel
theorem dX3_takesPart_12 : decode cX3_takesPart 12 = .ok (.iconst 0, 1) := by decide +kernel
theorem dX3_takesPart_13 : decode cX3_takesPart 13 = .ok (.ireturn, 1) := by decide +kernel
theorem dX3_partsIn_0 : decode cX3_partsIn 0 = .ok (.iconst 0, 1) := by decide +kernel
theorem dX3_partsIn_1 : decode cX3_partsIn 1 = .ok (.istore_n 3, 1) := by decide +kernel
theorem dX3_partsIn_2 : decode cX3_partsIn 2 = .ok (.iconst 0, 1) := by decide +kernel
theorem dX3_partsIn_3 : decode cX3_partsIn 3 = .ok (.istore 4, 2) := by decide +kernel
theorem dX3_partsIn_5 : decode cX3_partsIn 5 = .ok (.iload 4, 2) := by decide +kernel
theorem dX3_partsIn_7 : decode cX3_partsIn 7 = .ok (.aload_n 0, 1) := by decide +kernel
theorem dX3_partsIn_8 : decode cX3_partsIn 8 = .ok (.getfield 10, 3) := by decide +kernel
theorem dX3_partsIn_11 : decode cX3_partsIn 11 = .ok (.invokevirtual 46, 3) := by decide +kernel
theorem dX3_partsIn_14 : decode cX3_partsIn 14 = .ok (.if_icmp .ge 36, 3) := by decide +kernel
theorem dX3_partsIn_17 : decode cX3_partsIn 17 = .ok (.aload_n 0, 1) := by decide +kernel
theorem dX3_partsIn_18 : decode cX3_partsIn 18 = .ok (.iload 4, 2) := by decide +kernel
theorem dX3_partsIn_20 : decode cX3_partsIn 20 = .ok (.invokevirtual 126, 3) := by decide +kernel
theorem dX3_partsIn_23 : decode cX3_partsIn 23 = .ok (.ifCond .ne 21, 3) := by decide +kernel
theorem dX3_partsIn_26 : decode cX3_partsIn 26 = .ok (.aload_n 0, 1) := by decide +kernel
theorem dX3_partsIn_27 : decode cX3_partsIn 27 = .ok (.iload 4, 2) := by decide +kernel
theorem dX3_partsIn_29 : decode cX3_partsIn 29 = .ok (.iload_n 1, 1) := by decide +kernel
theorem dX3_partsIn_30 : decode cX3_partsIn 30 = .ok (.iload_n 2, 1) := by decide +kernel
theorem dX3_partsIn_31 : decode cX3_partsIn 31 = .ok (.invokevirtual 267, 3) := by decide +kernel
theorem dX3_partsIn_34 : decode cX3_partsIn 34 = .ok (.ifCond .le 10, 3) := by decide +kernel
theorem dX3_partsIn_37 : decode cX3_partsIn 37 = .ok (.iload_n 3, 1) := by decide +kernel
theorem dX3_partsIn_38 : decode cX3_partsIn 38 = .ok (.iconst 1, 1) := by decide +kernel
theorem dX3_partsIn_39 : decode cX3_partsIn 39 = .ok (.iload 4, 2) := by decide +kernel
theorem dX3_partsIn_41 : decode cX3_partsIn 41 = .ok (.ishl, 1) := by decide +kernel
theorem dX3_partsIn_42 : decode cX3_partsIn 42 = .ok (.ior, 1) := by decide +kernel
theorem dX3_partsIn_43 : decode cX3_partsIn 43 = .ok (.istore_n 3, 1) := by decide +kernel
theorem dX3_partsIn_44 : decode cX3_partsIn 44 = .ok (.iinc 4 1, 3) := by decide +kernel
theorem dX3_partsIn_47 : decode cX3_partsIn 47 = .ok (.goto (-42), 3) := by decide +kernel
theorem dX3_partsIn_50 : decode cX3_partsIn 50 = .ok (.iload_n 3, 1) := by decide +kernel
theorem dX3_partsIn_51 : decode cX3_partsIn 51 = .ok (.ireturn, 1) := by decide +kernel
theorem dX3_pointsFor_0 : decode cX3_pointsFor 0 = .ok (.aload_n 0, 1) := by decide +kernel
theorem dX3_pointsFor_1 : decode cX3_pointsFor 1 = .ok (.getfield 10, 3) := by decide +kernel
theorem dX3_pointsFor_4 : decode cX3_pointsFor 4 = .ok (.iload_n 1, 1) := by decide +kernel
theorem dX3_pointsFor_5 : decode cX3_pointsFor 5 = .ok (.invokevirtual 85, 3) := by decide +kernel
theorem dX3_pointsFor_8 : decode cX3_pointsFor 8 = .ok (.checkcast 61, 3) := by decide +kernel
theorem dX3_pointsFor_11 : decode cX3_pointsFor 11 = .ok (.astore 4, 2) := by decide +kernel
theorem dX3_pointsFor_13 : decode cX3_pointsFor 13 = .ok (.aload 4, 2) := by decide +kernel
theorem dX3_pointsFor_15 : decode cX3_pointsFor 15 = .ok (.getfield 95, 3) := by decide +kernel
theorem dX3_pointsFor_18 : decode cX3_pointsFor 18 = .ok (.iload_n 2, 1) := by decide +kernel
theorem dX3_pointsFor_19 : decode cX3_pointsFor 19 = .ok (.iload_n 3, 1) := by decide +kernel
theorem dX3_pointsFor_20 : decode cX3_pointsFor 20 = .ok (.invokevirtual 270, 3) := by decide +kernel
theorem dX3_pointsFor_23 : decode cX3_pointsFor 23 = .ok (.aload 4, 2) := by decide +kernel
theorem dX3_pointsFor_25 : decode cX3_pointsFor 25 = .ok (.getfield 104, 3) := by decide +kernel
theorem dX3_pointsFor_28 : decode cX3_pointsFor 28 = .ok (.iload_n 2, 1) := by decide +kernel
theorem dX3_pointsFor_29 : decode cX3_pointsFor 29 = .ok (.iload_n 3, 1) := by decide +kernel
theorem dX3_pointsFor_30 : decode cX3_pointsFor 30 = .ok (.invokevirtual 270, 3) := by decide +kernel
theorem dX3_pointsFor_33 : decode cX3_pointsFor 33 = .ok (.iadd, 1) := by decide +kernel
theorem dX3_pointsFor_34 : decode cX3_pointsFor 34 = .ok (.iconst 5, 1) := by decide +kernel
theorem dX3_pointsFor_35 : decode cX3_pointsFor 35 = .ok (.aload_n 0, 1) := by decide +kernel
theorem dX3_pointsFor_36 : decode cX3_pointsFor 36 = .ok (.iload_n 1, 1) := by decide +kernel
theorem dX3_pointsFor_37 : decode cX3_pointsFor 37 = .ok (.iload_n 2, 1) := by decide +kernel
theorem dX3_pointsFor_38 : decode cX3_pointsFor 38 = .ok (.iload_n 3, 1) := by decide +kernel
theorem dX3_pointsFor_39 : decode cX3_pointsFor 39 = .ok (.invokevirtual 254, 3) := by decide +kernel
theorem dX3_pointsFor_42 : decode cX3_pointsFor 42 = .ok (.imul, 1) := by decide +kernel
theorem dX3_pointsFor_43 : decode cX3_pointsFor 43 = .ok (.iadd, 1) := by decide +kernel
theorem dX3_pointsFor_44 : decode cX3_pointsFor 44 = .ok (.ireturn, 1) := by decide +kernel
theorem dX3_isAnyBusy_0 : decode cX3_isAnyBusy 0 = .ok (.iconst 0, 1) := by decide +kernel
theorem dX3_isAnyBusy_1 : decode cX3_isAnyBusy 1 = .ok (.istore_n 3, 1) := by decide +kernel
theorem dX3_isAnyBusy_2 : decode cX3_isAnyBusy 2 = .ok (.iload_n 3, 1) := by decide +kernel
theorem dX3_isAnyBusy_3 : decode cX3_isAnyBusy 3 = .ok (.iconst 3, 1) := by decide +kernel
theorem dX3_isAnyBusy_4 : decode cX3_isAnyBusy 4 = .ok (.if_icmp .ge 37, 3) := by decide +kernel
theorem dX3_isAnyBusy_7 : decode cX3_isAnyBusy 7 = .ok (.aload_n 0, 1) := by decide +kernel
theorem dX3_isAnyBusy_8 : decode cX3_isAnyBusy 8 = .ok (.getfield 25, 3) := by decide +kernel
theorem dX3_isAnyBusy_11 : decode cX3_isAnyBusy 11 = .ok (.iload_n 3, 1) := by decide +kernel
theorem dX3_isAnyBusy_12 : decode cX3_isAnyBusy 12 = .ok (.aaload, 1) := by decide +kernel
theorem dX3_isAnyBusy_13 : decode cX3_isAnyBusy 13 = .ok (.iload_n 2, 1) := by decide +kernel
theorem dX3_isAnyBusy_14 : decode cX3_isAnyBusy 14 = .ok (.bipush 8, 2) := by decide +kernel
theorem dX3_isAnyBusy_16 : decode cX3_isAnyBusy 16 = .ok (.isub, 1) := by decide +kernel
theorem dX3_isAnyBusy_17 : decode cX3_isAnyBusy 17 = .ok (.iaload, 1) := by decide +kernel
theorem dX3_isAnyBusy_18 : decode cX3_isAnyBusy 18 = .ok (.istore 4, 2) := by decide +kernel
theorem dX3_isAnyBusy_20 : decode cX3_isAnyBusy 20 = .ok (.iload 4, 2) := by decide +kernel
theorem dX3_isAnyBusy_22 : decode cX3_isAnyBusy 22 = .ok (.iconst (-1), 1) := by decide +kernel
theorem dX3_isAnyBusy_23 : decode cX3_isAnyBusy 23 = .ok (.if_icmp .eq 12, 3) := by decide +kernel
theorem dX3_isAnyBusy_26 : decode cX3_isAnyBusy 26 = .ok (.iload 4, 2) := by decide +kernel
theorem dX3_isAnyBusy_28 : decode cX3_isAnyBusy 28 = .ok (.iload_n 1, 1) := by decide +kernel
theorem dX3_isAnyBusy_29 : decode cX3_isAnyBusy 29 = .ok (.iand, 1) := by decide +kernel
theorem dX3_isAnyBusy_30 : decode cX3_isAnyBusy 30 = .ok (.ifCond .eq 5, 3) := by decide +kernel
theorem dX3_isAnyBusy_33 : decode cX3_isAnyBusy 33 = .ok (.iconst 1, 1) := by decide +kernel
theorem dX3_isAnyBusy_34 : decode cX3_isAnyBusy 34 = .ok (.ireturn, 1) := by decide +kernel
theorem dX3_isAnyBusy_35 : decode cX3_isAnyBusy 35 = .ok (.iinc 3 1, 3) := by decide +kernel
theorem dX3_isAnyBusy_38 : decode cX3_isAnyBusy 38 = .ok (.goto (-36), 3) := by decide +kernel
theorem dX3_isAnyBusy_41 : decode cX3_isAnyBusy 41 = .ok (.iconst 0, 1) := by decide +kernel
theorem dX3_isAnyBusy_42 : decode cX3_isAnyBusy 42 = .ok (.ireturn, 1) := by decide +kernel
theorem dX3_canKneesBear_0 : decode cX3_canKneesBear 0 = .ok (.iconst 0, 1) := by decide +kernel
theorem dX3_canKneesBear_1 : decode cX3_canKneesBear 1 = .ok (.istore 4, 2) := by decide +kernel
theorem dX3_canKneesBear_3 : decode cX3_canKneesBear 3 = .ok (.iload 4, 2) := by decide +kernel
theorem dX3_canKneesBear_5 : decode cX3_canKneesBear 5 = .ok (.aload_n 0, 1) := by decide +kernel
theorem dX3_canKneesBear_6 : decode cX3_canKneesBear 6 = .ok (.getfield 10, 3) := by decide +kernel
theorem dX3_canKneesBear_9 : decode cX3_canKneesBear 9 = .ok (.invokevirtual 46, 3) := by decide +kernel
theorem dX3_canKneesBear_12 : decode cX3_canKneesBear 12 = .ok (.if_icmp .ge 49, 3) := by decide +kernel
theorem dX3_canKneesBear_15 : decode cX3_canKneesBear 15 = .ok (.iload_n 1, 1) := by decide +kernel
theorem dX3_canKneesBear_16 : decode cX3_canKneesBear 16 = .ok (.iload 4, 2) := by decide +kernel
theorem dX3_canKneesBear_18 : decode cX3_canKneesBear 18 = .ok (.invokestatic 273, 3) := by decide +kernel
theorem dX3_canKneesBear_21 : decode cX3_canKneesBear 21 = .ok (.ifCond .eq 34, 3) := by decide +kernel
theorem dX3_canKneesBear_24 : decode cX3_canKneesBear 24 = .ok (.aload_n 0, 1) := by decide +kernel
theorem dX3_canKneesBear_25 : decode cX3_canKneesBear 25 = .ok (.getfield 10, 3) := by decide +kernel
theorem dX3_canKneesBear_28 : decode cX3_canKneesBear 28 = .ok (.iload 4, 2) := by decide +kernel
theorem dX3_canKneesBear_30 : decode cX3_canKneesBear 30 = .ok (.invokevirtual 85, 3) := by decide +kernel
theorem dX3_canKneesBear_33 : decode cX3_canKneesBear 33 = .ok (.checkcast 61, 3) := by decide +kernel
theorem dX3_canKneesBear_36 : decode cX3_canKneesBear 36 = .ok (.getfield 202, 3) := by decide +kernel
theorem dX3_canKneesBear_39 : decode cX3_canKneesBear 39 = .ok (.aload_n 0, 1) := by decide +kernel
theorem dX3_canKneesBear_40 : decode cX3_canKneesBear 40 = .ok (.iload 4, 2) := by decide +kernel
theorem dX3_canKneesBear_42 : decode cX3_canKneesBear 42 = .ok (.iload_n 2, 1) := by decide +kernel
theorem dX3_canKneesBear_43 : decode cX3_canKneesBear 43 = .ok (.iload_n 3, 1) := by decide +kernel
theorem dX3_canKneesBear_44 : decode cX3_canKneesBear 44 = .ok (.invokevirtual 267, 3) := by decide +kernel
theorem dX3_canKneesBear_47 : decode cX3_canKneesBear 47 = .ok (.iadd, 1) := by decide +kernel
theorem dX3_canKneesBear_48 : decode cX3_canKneesBear 48 = .ok (.bipush 60, 2) := by decide +kernel
theorem dX3_canKneesBear_50 : decode cX3_canKneesBear 50 = .ok (.if_icmp .le 5, 3) := by decide +kernel
theorem dX3_canKneesBear_53 : decode cX3_canKneesBear 53 = .ok (.iconst 0, 1) := by decide +kernel
theorem dX3_canKneesBear_54 : decode cX3_canKneesBear 54 = .ok (.ireturn, 1) := by decide +kernel
theorem dX3_canKneesBear_55 : decode cX3_canKneesBear 55 = .ok (.iinc 4 1, 3) := by decide +kernel
theorem dX3_canKneesBear_58 : decode cX3_canKneesBear 58 = .ok (.goto (-55), 3) := by decide +kernel
theorem dX3_canKneesBear_61 : decode cX3_canKneesBear 61 = .ok (.iconst 1, 1) := by decide +kernel
theorem dX3_canKneesBear_62 : decode cX3_canKneesBear 62 = .ok (.ireturn, 1) := by decide +kernel
theorem dX3_chargeKnees_0 : decode cX3_chargeKnees 0 = .ok (.iconst 0, 1) := by decide +kernel
theorem dX3_chargeKnees_1 : decode cX3_chargeKnees 1 = .ok (.istore 4, 2) := by decide +kernel
theorem dX3_chargeKnees_3 : decode cX3_chargeKnees 3 = .ok (.iload 4, 2) := by decide +kernel
theorem dX3_chargeKnees_5 : decode cX3_chargeKnees 5 = .ok (.aload_n 0, 1) := by decide +kernel
theorem dX3_chargeKnees_6 : decode cX3_chargeKnees 6 = .ok (.getfield 10, 3) := by decide +kernel
theorem dX3_chargeKnees_9 : decode cX3_chargeKnees 9 = .ok (.invokevirtual 46, 3) := by decide +kernel
theorem dX3_chargeKnees_12 : decode cX3_chargeKnees 12 = .ok (.if_icmp .ge 46, 3) := by decide +kernel
theorem dX3_chargeKnees_15 : decode cX3_chargeKnees 15 = .ok (.iload_n 1, 1) := by decide +kernel
theorem dX3_chargeKnees_16 : decode cX3_chargeKnees 16 = .ok (.iload 4, 2) := by decide +kernel
theorem dX3_chargeKnees_18 : decode cX3_chargeKnees 18 = .ok (.invokestatic 273, 3) := by decide +kernel
theorem dX3_chargeKnees_21 : decode cX3_chargeKnees 21 = .ok (.ifCond .eq 31, 3) := by decide +kernel
theorem dX3_chargeKnees_24 : decode cX3_chargeKnees 24 = .ok (.aload_n 0, 1) := by decide +kernel
theorem dX3_chargeKnees_25 : decode cX3_chargeKnees 25 = .ok (.getfield 10, 3) := by decide +kernel
theorem dX3_chargeKnees_28 : decode cX3_chargeKnees 28 = .ok (.iload 4, 2) := by decide +kernel
theorem dX3_chargeKnees_30 : decode cX3_chargeKnees 30 = .ok (.invokevirtual 85, 3) := by decide +kernel
theorem dX3_chargeKnees_33 : decode cX3_chargeKnees 33 = .ok (.checkcast 61, 3) := by decide +kernel
theorem dX3_chargeKnees_36 : decode cX3_chargeKnees 36 = .ok (.dup, 1) := by decide +kernel
theorem dX3_chargeKnees_37 : decode cX3_chargeKnees 37 = .ok (.getfield 202, 3) := by decide +kernel
theorem dX3_chargeKnees_40 : decode cX3_chargeKnees 40 = .ok (.aload_n 0, 1) := by decide +kernel
theorem dX3_chargeKnees_41 : decode cX3_chargeKnees 41 = .ok (.iload 4, 2) := by decide +kernel
theorem dX3_chargeKnees_43 : decode cX3_chargeKnees 43 = .ok (.iload_n 2, 1) := by decide +kernel
theorem dX3_chargeKnees_44 : decode cX3_chargeKnees 44 = .ok (.iload_n 3, 1) := by decide +kernel
theorem dX3_chargeKnees_45 : decode cX3_chargeKnees 45 = .ok (.invokevirtual 267, 3) := by decide +kernel
theorem dX3_chargeKnees_48 : decode cX3_chargeKnees 48 = .ok (.iadd, 1) := by decide +kernel
theorem dX3_chargeKnees_49 : decode cX3_chargeKnees 49 = .ok (.putfield 202, 3) := by decide +kernel
theorem dX3_chargeKnees_52 : decode cX3_chargeKnees 52 = .ok (.iinc 4 1, 3) := by decide +kernel
theorem dX3_chargeKnees_55 : decode cX3_chargeKnees 55 = .ok (.goto (-52), 3) := by decide +kernel
theorem dX3_chargeKnees_58 : decode cX3_chargeKnees 58 = .ok (.return_, 1) := by decide +kernel
theorem dX3_dropLiftsOf_0 : decode cX3_dropLiftsOf 0 = .ok (.iconst 0, 1) := by decide +kernel
theorem dX3_dropLiftsOf_1 : decode cX3_dropLiftsOf 1 = .ok (.istore_n 2, 1) := by decide +kernel
theorem dX3_dropLiftsOf_2 : decode cX3_dropLiftsOf 2 = .ok (.iload_n 2, 1) := by decide +kernel
theorem dX3_dropLiftsOf_3 : decode cX3_dropLiftsOf 3 = .ok (.aload_n 0, 1) := by decide +kernel
theorem dX3_dropLiftsOf_4 : decode cX3_dropLiftsOf 4 = .ok (.getfield 16, 3) := by decide +kernel
theorem dX3_dropLiftsOf_7 : decode cX3_dropLiftsOf 7 = .ok (.invokevirtual 46, 3) := by decide +kernel
theorem dX3_dropLiftsOf_10 : decode cX3_dropLiftsOf 10 = .ok (.if_icmp .ge 34, 3) := by decide +kernel
theorem dX3_dropLiftsOf_13 : decode cX3_dropLiftsOf 13 = .ok (.aload_n 0, 1) := by decide +kernel
theorem dX3_dropLiftsOf_14 : decode cX3_dropLiftsOf 14 = .ok (.getfield 16, 3) := by decide +kernel
theorem dX3_dropLiftsOf_17 : decode cX3_dropLiftsOf 17 = .ok (.iload_n 2, 1) := by decide +kernel
theorem dX3_dropLiftsOf_18 : decode cX3_dropLiftsOf 18 = .ok (.invokevirtual 85, 3) := by decide +kernel
theorem dX3_dropLiftsOf_21 : decode cX3_dropLiftsOf 21 = .ok (.checkcast 131, 3) := by decide +kernel
theorem dX3_dropLiftsOf_24 : decode cX3_dropLiftsOf 24 = .ok (.astore_n 3, 1) := by decide +kernel
theorem dX3_dropLiftsOf_25 : decode cX3_dropLiftsOf 25 = .ok (.aload_n 3, 1) := by decide +kernel
theorem dX3_dropLiftsOf_26 : decode cX3_dropLiftsOf 26 = .ok (.getfield 143, 3) := by decide +kernel
theorem dX3_dropLiftsOf_29 : decode cX3_dropLiftsOf 29 = .ok (.iload_n 1, 1) := by decide +kernel
theorem dX3_dropLiftsOf_30 : decode cX3_dropLiftsOf 30 = .ok (.if_icmp .ne 8, 3) := by decide +kernel
theorem dX3_dropLiftsOf_33 : decode cX3_dropLiftsOf 33 = .ok (.aload_n 3, 1) := by decide +kernel
theorem dX3_dropLiftsOf_34 : decode cX3_dropLiftsOf 34 = .ok (.iconst 1, 1) := by decide +kernel
theorem dX3_dropLiftsOf_35 : decode cX3_dropLiftsOf 35 = .ok (.putfield 213, 3) := by decide +kernel
theorem dX3_dropLiftsOf_38 : decode cX3_dropLiftsOf 38 = .ok (.iinc 2 1, 3) := by decide +kernel
theorem dX3_dropLiftsOf_41 : decode cX3_dropLiftsOf 41 = .ok (.goto (-39), 3) := by decide +kernel
theorem dX3_dropLiftsOf_44 : decode cX3_dropLiftsOf 44 = .ok (.return_, 1) := by decide +kernel
theorem dX3_replaceIn_0 : decode cX3_replaceIn 0 = .ok (.iconst (-1), 1) := by decide +kernel
theorem dX3_replaceIn_1 : decode cX3_replaceIn 1 = .ok (.istore_n 3, 1) := by decide +kernel
theorem dX3_replaceIn_2 : decode cX3_replaceIn 2 = .ok (.iconst 3, 1) := by decide +kernel
theorem dX3_replaceIn_3 : decode cX3_replaceIn 3 = .ok (.istore 4, 2) := by decide +kernel
theorem dX3_replaceIn_5 : decode cX3_replaceIn 5 = .ok (.iconst 0, 1) := by decide +kernel
theorem dX3_replaceIn_6 : decode cX3_replaceIn 6 = .ok (.istore 5, 2) := by decide +kernel
theorem dX3_replaceIn_8 : decode cX3_replaceIn 8 = .ok (.iload 5, 2) := by decide +kernel
theorem dX3_replaceIn_10 : decode cX3_replaceIn 10 = .ok (.aload_n 0, 1) := by decide +kernel
theorem dX3_replaceIn_11 : decode cX3_replaceIn 11 = .ok (.getfield 10, 3) := by decide +kernel
theorem dX3_replaceIn_14 : decode cX3_replaceIn 14 = .ok (.invokevirtual 46, 3) := by decide +kernel
theorem dX3_replaceIn_17 : decode cX3_replaceIn 17 = .ok (.if_icmp .ge 33, 3) := by decide +kernel
theorem dX3_replaceIn_20 : decode cX3_replaceIn 20 = .ok (.aload_n 0, 1) := by decide +kernel
theorem dX3_replaceIn_21 : decode cX3_replaceIn 21 = .ok (.aload_n 1, 1) := by decide +kernel
theorem dX3_replaceIn_22 : decode cX3_replaceIn 22 = .ok (.iload_n 2, 1) := by decide +kernel
theorem dX3_replaceIn_23 : decode cX3_replaceIn 23 = .ok (.iload 5, 2) := by decide +kernel
theorem dX3_replaceIn_25 : decode cX3_replaceIn 25 = .ok (.invokevirtual 276, 3) := by decide +kernel
theorem dX3_replaceIn_28 : decode cX3_replaceIn 28 = .ok (.istore 6, 2) := by decide +kernel
theorem dX3_replaceIn_30 : decode cX3_replaceIn 30 = .ok (.iload 6, 2) := by decide +kernel
theorem dX3_replaceIn_32 : decode cX3_replaceIn 32 = .ok (.iload 4, 2) := by decide +kernel
theorem dX3_replaceIn_34 : decode cX3_replaceIn 34 = .ok (.if_icmp .ge 10, 3) := by decide +kernel
theorem dX3_replaceIn_37 : decode cX3_replaceIn 37 = .ok (.iload 5, 2) := by decide +kernel
theorem dX3_replaceIn_39 : decode cX3_replaceIn 39 = .ok (.istore_n 3, 1) := by decide +kernel
theorem dX3_replaceIn_40 : decode cX3_replaceIn 40 = .ok (.iload 6, 2) := by decide +kernel
theorem dX3_replaceIn_42 : decode cX3_replaceIn 42 = .ok (.istore 4, 2) := by decide +kernel
theorem dX3_replaceIn_44 : decode cX3_replaceIn 44 = .ok (.iinc 5 1, 3) := by decide +kernel
theorem dX3_replaceIn_47 : decode cX3_replaceIn 47 = .ok (.goto (-39), 3) := by decide +kernel
end
section
theorem dX3_replaceIn_50 : decode cX3_replaceIn 50 = .ok (.iload_n 3, 1) := by decide +kernel
theorem dX3_replaceIn_51 : decode cX3_replaceIn 51 = .ok (.iconst (-1), 1) := by decide +kernel
theorem dX3_replaceIn_52 : decode cX3_replaceIn 52 = .ok (.if_icmp .ne 10, 3) := by decide +kernel
theorem dX3_replaceIn_55 : decode cX3_replaceIn 55 = .ok (.aload_n 1, 1) := by decide +kernel
theorem dX3_replaceIn_56 : decode cX3_replaceIn 56 = .ok (.iconst 1, 1) := by decide +kernel
theorem dX3_replaceIn_57 : decode cX3_replaceIn 57 = .ok (.putfield 213, 3) := by decide +kernel
theorem dX3_replaceIn_60 : decode cX3_replaceIn 60 = .ok (.iconst 0, 1) := by decide +kernel
theorem dX3_replaceIn_61 : decode cX3_replaceIn 61 = .ok (.ireturn, 1) := by decide +kernel
theorem dX3_replaceIn_62 : decode cX3_replaceIn 62 = .ok (.iload 4, 2) := by decide +kernel
theorem dX3_replaceIn_64 : decode cX3_replaceIn 64 = .ok (.ifCond .le 32, 3) := by decide +kernel
theorem dX3_replaceIn_67 : decode cX3_replaceIn 67 = .ok (.aload_n 0, 1) := by decide +kernel
theorem dX3_replaceIn_68 : decode cX3_replaceIn 68 = .ok (.getfield 10, 3) := by decide +kernel
theorem dX3_replaceIn_71 : decode cX3_replaceIn 71 = .ok (.iload_n 3, 1) := by decide +kernel
theorem dX3_replaceIn_72 : decode cX3_replaceIn 72 = .ok (.invokevirtual 85, 3) := by decide +kernel
theorem dX3_replaceIn_75 : decode cX3_replaceIn 75 = .ok (.checkcast 61, 3) := by decide +kernel
theorem dX3_replaceIn_78 : decode cX3_replaceIn 78 = .ok (.aload_n 0, 1) := by decide +kernel
theorem dX3_replaceIn_79 : decode cX3_replaceIn 79 = .ok (.getfield 10, 3) := by decide +kernel
theorem dX3_replaceIn_82 : decode cX3_replaceIn 82 = .ok (.iload_n 2, 1) := by decide +kernel
theorem dX3_replaceIn_83 : decode cX3_replaceIn 83 = .ok (.invokevirtual 85, 3) := by decide +kernel
theorem dX3_replaceIn_86 : decode cX3_replaceIn 86 = .ok (.checkcast 61, 3) := by decide +kernel
theorem dX3_replaceIn_89 : decode cX3_replaceIn 89 = .ok (.aload_n 1, 1) := by decide +kernel
theorem dX3_replaceIn_90 : decode cX3_replaceIn 90 = .ok (.getfield 140, 3) := by decide +kernel
theorem dX3_replaceIn_93 : decode cX3_replaceIn 93 = .ok (.invokevirtual 280, 3) := by decide +kernel
theorem dX3_replaceIn_96 : decode cX3_replaceIn 96 = .ok (.aload_n 1, 1) := by decide +kernel
theorem dX3_replaceIn_97 : decode cX3_replaceIn 97 = .ok (.iload_n 2, 1) := by decide +kernel
theorem dX3_replaceIn_98 : decode cX3_replaceIn 98 = .ok (.iload_n 3, 1) := by decide +kernel
theorem dX3_replaceIn_99 : decode cX3_replaceIn 99 = .ok (.invokevirtual 284, 3) := by decide +kernel
theorem dX3_replaceIn_102 : decode cX3_replaceIn 102 = .ok (.iload 4, 2) := by decide +kernel
theorem dX3_replaceIn_104 : decode cX3_replaceIn 104 = .ok (.ireturn, 1) := by decide +kernel
theorem dX3_movesNeeded_0 : decode cX3_movesNeeded 0 = .ok (.aload_n 0, 1) := by decide +kernel
theorem dX3_movesNeeded_1 : decode cX3_movesNeeded 1 = .ok (.iload_n 3, 1) := by decide +kernel
theorem dX3_movesNeeded_2 : decode cX3_movesNeeded 2 = .ok (.invokevirtual 126, 3) := by decide +kernel
theorem dX3_movesNeeded_5 : decode cX3_movesNeeded 5 = .ok (.ifCond .ne 19, 3) := by decide +kernel
theorem dX3_movesNeeded_8 : decode cX3_movesNeeded 8 = .ok (.aload_n 0, 1) := by decide +kernel
theorem dX3_movesNeeded_9 : decode cX3_movesNeeded 9 = .ok (.iload_n 3, 1) := by decide +kernel
theorem dX3_movesNeeded_10 : decode cX3_movesNeeded 10 = .ok (.aload_n 1, 1) := by decide +kernel
theorem dX3_movesNeeded_11 : decode cX3_movesNeeded 11 = .ok (.getfield 140, 3) := by decide +kernel
theorem dX3_movesNeeded_14 : decode cX3_movesNeeded 14 = .ok (.aload_n 1, 1) := by decide +kernel
theorem dX3_movesNeeded_15 : decode cX3_movesNeeded 15 = .ok (.getfield 140, 3) := by decide +kernel
theorem dX3_movesNeeded_18 : decode cX3_movesNeeded 18 = .ok (.invokevirtual 254, 3) := by decide +kernel
theorem dX3_movesNeeded_21 : decode cX3_movesNeeded 21 = .ok (.ifCond .le 5, 3) := by decide +kernel
theorem dX3_movesNeeded_24 : decode cX3_movesNeeded 24 = .ok (.iconst 3, 1) := by decide +kernel
theorem dX3_movesNeeded_25 : decode cX3_movesNeeded 25 = .ok (.ireturn, 1) := by decide +kernel
theorem dX3_movesNeeded_26 : decode cX3_movesNeeded 26 = .ok (.aload_n 0, 1) := by decide +kernel
theorem dX3_movesNeeded_27 : decode cX3_movesNeeded 27 = .ok (.aload_n 1, 1) := by decide +kernel
theorem dX3_movesNeeded_28 : decode cX3_movesNeeded 28 = .ok (.iload_n 3, 1) := by decide +kernel
theorem dX3_movesNeeded_29 : decode cX3_movesNeeded 29 = .ok (.invokevirtual 251, 3) := by decide +kernel
theorem dX3_movesNeeded_32 : decode cX3_movesNeeded 32 = .ok (.ifCond .eq 5, 3) := by decide +kernel
theorem dX3_movesNeeded_35 : decode cX3_movesNeeded 35 = .ok (.iconst 0, 1) := by decide +kernel
theorem dX3_movesNeeded_36 : decode cX3_movesNeeded 36 = .ok (.ireturn, 1) := by decide +kernel
theorem dX3_movesNeeded_37 : decode cX3_movesNeeded 37 = .ok (.aload_n 0, 1) := by decide +kernel
theorem dX3_movesNeeded_38 : decode cX3_movesNeeded 38 = .ok (.getfield 10, 3) := by decide +kernel
theorem dX3_movesNeeded_41 : decode cX3_movesNeeded 41 = .ok (.iload_n 3, 1) := by decide +kernel
theorem dX3_movesNeeded_42 : decode cX3_movesNeeded 42 = .ok (.invokevirtual 85, 3) := by decide +kernel
theorem dX3_movesNeeded_45 : decode cX3_movesNeeded 45 = .ok (.checkcast 61, 3) := by decide +kernel
theorem dX3_movesNeeded_48 : decode cX3_movesNeeded 48 = .ok (.aload_n 0, 1) := by decide +kernel
theorem dX3_movesNeeded_49 : decode cX3_movesNeeded 49 = .ok (.getfield 10, 3) := by decide +kernel
theorem dX3_movesNeeded_52 : decode cX3_movesNeeded 52 = .ok (.iload_n 2, 1) := by decide +kernel
theorem dX3_movesNeeded_53 : decode cX3_movesNeeded 53 = .ok (.invokevirtual 85, 3) := by decide +kernel
theorem dX3_movesNeeded_56 : decode cX3_movesNeeded 56 = .ok (.checkcast 61, 3) := by decide +kernel
theorem dX3_movesNeeded_59 : decode cX3_movesNeeded 59 = .ok (.aload_n 1, 1) := by decide +kernel
theorem dX3_movesNeeded_60 : decode cX3_movesNeeded 60 = .ok (.getfield 140, 3) := by decide +kernel
theorem dX3_movesNeeded_63 : decode cX3_movesNeeded 63 = .ok (.invokevirtual 287, 3) := by decide +kernel
theorem dX3_movesNeeded_66 : decode cX3_movesNeeded 66 = .ok (.istore 4, 2) := by decide +kernel
theorem dX3_movesNeeded_68 : decode cX3_movesNeeded 68 = .ok (.iload 4, 2) := by decide +kernel
theorem dX3_movesNeeded_70 : decode cX3_movesNeeded 70 = .ok (.ifCond .eq 7, 3) := by decide +kernel
theorem dX3_movesNeeded_73 : decode cX3_movesNeeded 73 = .ok (.iconst 2, 1) := by decide +kernel
theorem dX3_movesNeeded_74 : decode cX3_movesNeeded 74 = .ok (.goto 4, 3) := by decide +kernel
theorem dX3_movesNeeded_77 : decode cX3_movesNeeded 77 = .ok (.iconst 3, 1) := by decide +kernel
theorem dX3_movesNeeded_78 : decode cX3_movesNeeded 78 = .ok (.ireturn, 1) := by decide +kernel
theorem dX4_init_0 : decode cX4_init 0 = .ok (.aload_n 0, 1) := by decide +kernel
theorem dX4_init_1 : decode cX4_init 1 = .ok (.invokespecial 1, 3) := by decide +kernel
theorem dX4_init_4 : decode cX4_init 4 = .ok (.aload_n 0, 1) := by decide +kernel
theorem dX4_init_5 : decode cX4_init 5 = .ok (.bipush 8, 2) := by decide +kernel
theorem dX4_init_7 : decode cX4_init 7 = .ok (.newarray .int, 2) := by decide +kernel
theorem dX4_init_9 : decode cX4_init 9 = .ok (.putfield 7, 3) := by decide +kernel
theorem dX4_init_12 : decode cX4_init 12 = .ok (.aload_n 0, 1) := by decide +kernel
theorem dX4_init_13 : decode cX4_init 13 = .ok (.bipush 8, 2) := by decide +kernel
theorem dX4_init_15 : decode cX4_init 15 = .ok (.newarray .int, 2) := by decide +kernel
theorem dX4_init_17 : decode cX4_init 17 = .ok (.putfield 13, 3) := by decide +kernel
theorem dX4_init_20 : decode cX4_init 20 = .ok (.aload_n 0, 1) := by decide +kernel
theorem dX4_init_21 : decode cX4_init 21 = .ok (.bipush 8, 2) := by decide +kernel
theorem dX4_init_23 : decode cX4_init 23 = .ok (.newarray .int, 2) := by decide +kernel
theorem dX4_init_25 : decode cX4_init 25 = .ok (.putfield 16, 3) := by decide +kernel
theorem dX4_init_28 : decode cX4_init 28 = .ok (.aload_n 0, 1) := by decide +kernel
theorem dX4_init_29 : decode cX4_init 29 = .ok (.bipush 8, 2) := by decide +kernel
theorem dX4_init_31 : decode cX4_init 31 = .ok (.newarray .int, 2) := by decide +kernel
theorem dX4_init_33 : decode cX4_init 33 = .ok (.putfield 19, 3) := by decide +kernel
theorem dX4_init_36 : decode cX4_init 36 = .ok (.aload_n 0, 1) := by decide +kernel
theorem dX4_init_37 : decode cX4_init 37 = .ok (.sipush 512, 3) := by decide +kernel
theorem dX4_init_40 : decode cX4_init 40 = .ok (.newarray .int, 2) := by decide +kernel
theorem dX4_init_42 : decode cX4_init 42 = .ok (.putfield 22, 3) := by decide +kernel
theorem dX4_init_45 : decode cX4_init 45 = .ok (.aload_n 0, 1) := by decide +kernel
theorem dX4_init_46 : decode cX4_init 46 = .ok (.sipush 512, 3) := by decide +kernel
theorem dX4_init_49 : decode cX4_init 49 = .ok (.newarray .int, 2) := by decide +kernel
theorem dX4_init_51 : decode cX4_init 51 = .ok (.putfield 25, 3) := by decide +kernel
theorem dX4_init_54 : decode cX4_init 54 = .ok (.aload_n 0, 1) := by decide +kernel
theorem dX4_init_55 : decode cX4_init 55 = .ok (.bipush 12, 2) := by decide +kernel
theorem dX4_init_57 : decode cX4_init 57 = .ok (.newarray .int, 2) := by decide +kernel
theorem dX4_init_59 : decode cX4_init 59 = .ok (.putfield 28, 3) := by decide +kernel
theorem dX4_init_62 : decode cX4_init 62 = .ok (.aload_n 0, 1) := by decide +kernel
theorem dX4_init_63 : decode cX4_init 63 = .ok (.bipush 12, 2) := by decide +kernel
theorem dX4_init_65 : decode cX4_init 65 = .ok (.newarray .int, 2) := by decide +kernel
theorem dX4_init_67 : decode cX4_init 67 = .ok (.putfield 31, 3) := by decide +kernel
theorem dX4_init_70 : decode cX4_init 70 = .ok (.aload_n 0, 1) := by decide +kernel
theorem dX4_init_71 : decode cX4_init 71 = .ok (.bipush 12, 2) := by decide +kernel
theorem dX4_init_73 : decode cX4_init 73 = .ok (.newarray .int, 2) := by decide +kernel
theorem dX4_init_75 : decode cX4_init 75 = .ok (.putfield 34, 3) := by decide +kernel
theorem dX4_init_78 : decode cX4_init 78 = .ok (.aload_n 0, 1) := by decide +kernel
theorem dX4_init_79 : decode cX4_init 79 = .ok (.bipush 12, 2) := by decide +kernel
theorem dX4_init_81 : decode cX4_init 81 = .ok (.newarray .int, 2) := by decide +kernel
theorem dX4_init_83 : decode cX4_init 83 = .ok (.putfield 37, 3) := by decide +kernel
theorem dX4_init_86 : decode cX4_init 86 = .ok (.aload_n 0, 1) := by decide +kernel
theorem dX4_init_87 : decode cX4_init 87 = .ok (.bipush 12, 2) := by decide +kernel
theorem dX4_init_89 : decode cX4_init 89 = .ok (.newarray .int, 2) := by decide +kernel
theorem dX4_init_91 : decode cX4_init 91 = .ok (.putfield 40, 3) := by decide +kernel
theorem dX4_init_94 : decode cX4_init 94 = .ok (.aload_n 0, 1) := by decide +kernel
theorem dX4_init_95 : decode cX4_init 95 = .ok (.bipush 64, 2) := by decide +kernel
theorem dX4_init_97 : decode cX4_init 97 = .ok (.newarray .int, 2) := by decide +kernel
theorem dX4_init_99 : decode cX4_init 99 = .ok (.putfield 43, 3) := by decide +kernel
theorem dX4_init_102 : decode cX4_init 102 = .ok (.aload_n 0, 1) := by decide +kernel
theorem dX4_init_103 : decode cX4_init 103 = .ok (.bipush 39, 2) := by decide +kernel
theorem dX4_init_105 : decode cX4_init 105 = .ok (.newarray .int, 2) := by decide +kernel
theorem dX4_init_107 : decode cX4_init 107 = .ok (.putfield 46, 3) := by decide +kernel
theorem dX4_init_110 : decode cX4_init 110 = .ok (.aload_n 0, 1) := by decide +kernel
theorem dX4_init_111 : decode cX4_init 111 = .ok (.invokevirtual 49, 3) := by decide +kernel
theorem dX4_init_114 : decode cX4_init 114 = .ok (.return_, 1) := by decide +kernel
theorem dX4_thrown_0 : decode cX4_thrown 0 = .ok (.aload_n 0, 1) := by decide +kernel
theorem dX4_thrown_1 : decode cX4_thrown 1 = .ok (.getfield 52, 3) := by decide +kernel
theorem dX4_thrown_4 : decode cX4_thrown 4 = .ok (.ireturn, 1) := by decide +kernel
theorem dX4_holds_0 : decode cX4_holds 0 = .ok (.aload_n 0, 1) := by decide +kernel
theorem dX4_holds_1 : decode cX4_holds 1 = .ok (.iload_n 1, 1) := by decide +kernel
theorem dX4_holds_2 : decode cX4_holds 2 = .ok (.putfield 52, 3) := by decide +kernel
theorem dX4_holds_5 : decode cX4_holds 5 = .ok (.iload_n 1, 1) := by decide +kernel
theorem dX4_holds_6 : decode cX4_holds 6 = .ok (.ifCond .le 7, 3) := by decide +kernel
theorem dX4_holds_9 : decode cX4_holds 9 = .ok (.iconst 1, 1) := by decide +kernel
theorem dX4_holds_10 : decode cX4_holds 10 = .ok (.goto 4, 3) := by decide +kernel
theorem dX4_holds_13 : decode cX4_holds 13 = .ok (.iconst 0, 1) := by decide +kernel
theorem dX4_holds_14 : decode cX4_holds 14 = .ok (.ireturn, 1) := by decide +kernel
theorem dX4_in_0 : decode cX4_in 0 = .ok (.iload_n 1, 1) := by decide +kernel
theorem dX4_in_1 : decode cX4_in 1 = .ok (.iload_n 2, 1) := by decide +kernel
theorem dX4_in_2 : decode cX4_in 2 = .ok (.if_icmp .lt 12, 3) := by decide +kernel
theorem dX4_in_5 : decode cX4_in 5 = .ok (.iload_n 1, 1) := by decide +kernel
theorem dX4_in_6 : decode cX4_in 6 = .ok (.iload_n 3, 1) := by decide +kernel
theorem dX4_in_7 : decode cX4_in 7 = .ok (.if_icmp .gt 7, 3) := by decide +kernel
theorem dX4_in_10 : decode cX4_in 10 = .ok (.iconst 1, 1) := by decide +kernel
theorem dX4_in_11 : decode cX4_in 11 = .ok (.goto 4, 3) := by decide +kernel
theorem dX4_in_14 : decode cX4_in 14 = .ok (.iconst 0, 1) := by decide +kernel
theorem dX4_in_15 : decode cX4_in 15 = .ok (.ireturn, 1) := by decide +kernel
theorem dX4_frees_0 : decode cX4_frees 0 = .ok (.iconst 0, 1) := by decide +kernel
theorem dX4_frees_1 : decode cX4_frees 1 = .ok (.istore_n 1, 1) := by decide +kernel
theorem dX4_frees_2 : decode cX4_frees 2 = .ok (.iload_n 1, 1) := by decide +kernel
theorem dX4_frees_3 : decode cX4_frees 3 = .ok (.bipush 39, 2) := by decide +kernel
theorem dX4_frees_5 : decode cX4_frees 5 = .ok (.if_icmp .ge 16, 3) := by decide +kernel
theorem dX4_frees_8 : decode cX4_frees 8 = .ok (.aload_n 0, 1) := by decide +kernel
theorem dX4_frees_9 : decode cX4_frees 9 = .ok (.getfield 46, 3) := by decide +kernel
theorem dX4_frees_12 : decode cX4_frees 12 = .ok (.iload_n 1, 1) := by decide +kernel
theorem dX4_frees_13 : decode cX4_frees 13 = .ok (.iconst (-1), 1) := by decide +kernel
theorem dX4_frees_14 : decode cX4_frees 14 = .ok (.iastore, 1) := by decide +kernel
theorem dX4_frees_15 : decode cX4_frees 15 = .ok (.iinc 1 1, 3) := by decide +kernel
theorem dX4_frees_18 : decode cX4_frees 18 = .ok (.goto (-16), 3) := by decide +kernel
theorem dX4_frees_21 : decode cX4_frees 21 = .ok (.return_, 1) := by decide +kernel
theorem dX4_isDancer_0 : decode cX4_isDancer 0 = .ok (.aload_n 0, 1) := by decide +kernel
theorem dX4_isDancer_1 : decode cX4_isDancer 1 = .ok (.iload_n 1, 1) := by decide +kernel
theorem dX4_isDancer_2 : decode cX4_isDancer 2 = .ok (.iconst 0, 1) := by decide +kernel
theorem dX4_isDancer_3 : decode cX4_isDancer 3 = .ok (.aload_n 0, 1) := by decide +kernel
theorem dX4_isDancer_4 : decode cX4_isDancer 4 = .ok (.getfield 56, 3) := by decide +kernel
theorem dX4_isDancer_7 : decode cX4_isDancer 7 = .ok (.iconst 1, 1) := by decide +kernel
theorem dX4_isDancer_8 : decode cX4_isDancer 8 = .ok (.isub, 1) := by decide +kernel
theorem dX4_isDancer_9 : decode cX4_isDancer 9 = .ok (.invokevirtual 59, 3) := by decide +kernel
theorem dX4_isDancer_12 : decode cX4_isDancer 12 = .ok (.ireturn, 1) := by decide +kernel
theorem dX4_isCount_0 : decode cX4_isCount 0 = .ok (.aload_n 0, 1) := by decide +kernel
theorem dX4_isCount_1 : decode cX4_isCount 1 = .ok (.iload_n 1, 1) := by decide +kernel
theorem dX4_isCount_2 : decode cX4_isCount 2 = .ok (.iconst 0, 1) := by decide +kernel
theorem dX4_isCount_3 : decode cX4_isCount 3 = .ok (.bipush 63, 2) := by decide +kernel
theorem dX4_isCount_5 : decode cX4_isCount 5 = .ok (.invokevirtual 59, 3) := by decide +kernel
theorem dX4_isCount_8 : decode cX4_isCount 8 = .ok (.ireturn, 1) := by decide +kernel
theorem dX4_dancer_0 : decode cX4_dancer 0 = .ok (.aload_n 0, 1) := by decide +kernel
theorem dX4_dancer_1 : decode cX4_dancer 1 = .ok (.iload_n 1, 1) := by decide +kernel
theorem dX4_dancer_2 : decode cX4_dancer 2 = .ok (.iconst 0, 1) := by decide +kernel
theorem dX4_dancer_3 : decode cX4_dancer 3 = .ok (.bipush 7, 2) := by decide +kernel
theorem dX4_dancer_5 : decode cX4_dancer 5 = .ok (.invokevirtual 59, 3) := by decide +kernel
theorem dX4_dancer_8 : decode cX4_dancer 8 = .ok (.ifCond .eq 18, 3) := by decide +kernel
theorem dX4_dancer_11 : decode cX4_dancer 11 = .ok (.aload_n 0, 1) := by decide +kernel
theorem dX4_dancer_12 : decode cX4_dancer 12 = .ok (.iload_n 2, 1) := by decide +kernel
theorem dX4_dancer_13 : decode cX4_dancer 13 = .ok (.iconst 0, 1) := by decide +kernel
theorem dX4_dancer_14 : decode cX4_dancer 14 = .ok (.bipush 7, 2) := by decide +kernel
theorem dX4_dancer_16 : decode cX4_dancer 16 = .ok (.invokevirtual 59, 3) := by decide +kernel
theorem dX4_dancer_19 : decode cX4_dancer 19 = .ok (.ifCond .eq 7, 3) := by decide +kernel
theorem dX4_dancer_22 : decode cX4_dancer 22 = .ok (.iconst 1, 1) := by decide +kernel
theorem dX4_dancer_23 : decode cX4_dancer 23 = .ok (.goto 4, 3) := by decide +kernel
theorem dX4_dancer_26 : decode cX4_dancer 26 = .ok (.iconst 0, 1) := by decide +kernel
theorem dX4_dancer_27 : decode cX4_dancer 27 = .ok (.istore_n 3, 1) := by decide +kernel
theorem dX4_dancer_28 : decode cX4_dancer 28 = .ok (.iconst 0, 1) := by decide +kernel
theorem dX4_dancer_29 : decode cX4_dancer 29 = .ok (.istore 4, 2) := by decide +kernel
theorem dX4_dancer_31 : decode cX4_dancer 31 = .ok (.iconst 0, 1) := by decide +kernel
theorem dX4_dancer_32 : decode cX4_dancer 32 = .ok (.istore 5, 2) := by decide +kernel
theorem dX4_dancer_34 : decode cX4_dancer 34 = .ok (.iload 5, 2) := by decide +kernel
theorem dX4_dancer_36 : decode cX4_dancer 36 = .ok (.aload_n 0, 1) := by decide +kernel
theorem dX4_dancer_37 : decode cX4_dancer 37 = .ok (.getfield 56, 3) := by decide +kernel
theorem dX4_dancer_40 : decode cX4_dancer 40 = .ok (.if_icmp .ge 41, 3) := by decide +kernel
theorem dX4_dancer_43 : decode cX4_dancer 43 = .ok (.iload 4, 2) := by decide +kernel
theorem dX4_dancer_45 : decode cX4_dancer 45 = .ok (.aload_n 0, 1) := by decide +kernel
theorem dX4_dancer_46 : decode cX4_dancer 46 = .ok (.getfield 7, 3) := by decide +kernel
theorem dX4_dancer_49 : decode cX4_dancer 49 = .ok (.iload 5, 2) := by decide +kernel
theorem dX4_dancer_51 : decode cX4_dancer 51 = .ok (.iaload, 1) := by decide +kernel
theorem dX4_dancer_52 : decode cX4_dancer 52 = .ok (.iload_n 1, 1) := by decide +kernel
theorem dX4_dancer_53 : decode cX4_dancer 53 = .ok (.if_icmp .ne 18, 3) := by decide +kernel
theorem dX4_dancer_56 : decode cX4_dancer 56 = .ok (.aload_n 0, 1) := by decide +kernel
theorem dX4_dancer_57 : decode cX4_dancer 57 = .ok (.getfield 13, 3) := by decide +kernel
theorem dX4_dancer_60 : decode cX4_dancer 60 = .ok (.iload 5, 2) := by decide +kernel
theorem dX4_dancer_62 : decode cX4_dancer 62 = .ok (.iaload, 1) := by decide +kernel
theorem dX4_dancer_63 : decode cX4_dancer 63 = .ok (.iload_n 2, 1) := by decide +kernel
theorem dX4_dancer_64 : decode cX4_dancer 64 = .ok (.if_icmp .ne 7, 3) := by decide +kernel
theorem dX4_dancer_67 : decode cX4_dancer 67 = .ok (.iconst 1, 1) := by decide +kernel
theorem dX4_dancer_68 : decode cX4_dancer 68 = .ok (.goto 4, 3) := by decide +kernel
theorem dX4_dancer_71 : decode cX4_dancer 71 = .ok (.iconst 0, 1) := by decide +kernel
theorem dX4_dancer_72 : decode cX4_dancer 72 = .ok (.ior, 1) := by decide +kernel
theorem dX4_dancer_73 : decode cX4_dancer 73 = .ok (.istore 4, 2) := by decide +kernel
theorem dX4_dancer_75 : decode cX4_dancer 75 = .ok (.iinc 5 1, 3) := by decide +kernel
theorem dX4_dancer_78 : decode cX4_dancer 78 = .ok (.goto (-44), 3) := by decide +kernel
theorem dX4_dancer_81 : decode cX4_dancer 81 = .ok (.aload_n 0, 1) := by decide +kernel
theorem dX4_dancer_82 : decode cX4_dancer 82 = .ok (.iload_n 3, 1) := by decide +kernel
theorem dX4_dancer_83 : decode cX4_dancer 83 = .ok (.ifCond .ne 7, 3) := by decide +kernel
theorem dX4_dancer_86 : decode cX4_dancer 86 = .ok (.iconst 1, 1) := by decide +kernel
theorem dX4_dancer_87 : decode cX4_dancer 87 = .ok (.goto 22, 3) := by decide +kernel
theorem dX4_dancer_90 : decode cX4_dancer 90 = .ok (.iload 4, 2) := by decide +kernel
theorem dX4_dancer_92 : decode cX4_dancer 92 = .ok (.ifCond .ne 12, 3) := by decide +kernel
theorem dX4_dancer_95 : decode cX4_dancer 95 = .ok (.aload_n 0, 1) := by decide +kernel
theorem dX4_dancer_96 : decode cX4_dancer 96 = .ok (.getfield 56, 3) := by decide +kernel
theorem dX4_dancer_99 : decode cX4_dancer 99 = .ok (.bipush 8, 2) := by decide +kernel
theorem dX4_dancer_101 : decode cX4_dancer 101 = .ok (.if_icmp .ne 7, 3) := by decide +kernel
theorem dX4_dancer_104 : decode cX4_dancer 104 = .ok (.iconst 2, 1) := by decide +kernel
theorem dX4_dancer_105 : decode cX4_dancer 105 = .ok (.goto 4, 3) := by decide +kernel
theorem dX4_dancer_108 : decode cX4_dancer 108 = .ok (.iconst 0, 1) := by decide +kernel
theorem dX4_dancer_109 : decode cX4_dancer 109 = .ok (.invokevirtual 63, 3) := by decide +kernel
theorem dX4_dancer_112 : decode cX4_dancer 112 = .ok (.ifCond .eq 5, 3) := by decide +kernel
theorem dX4_dancer_115 : decode cX4_dancer 115 = .ok (.iconst (-1), 1) := by decide +kernel
theorem dX4_dancer_116 : decode cX4_dancer 116 = .ok (.ireturn, 1) := by decide +kernel
theorem dX4_dancer_117 : decode cX4_dancer 117 = .ok (.aload_n 0, 1) := by decide +kernel
theorem dX4_dancer_118 : decode cX4_dancer 118 = .ok (.getfield 7, 3) := by decide +kernel
theorem dX4_dancer_121 : decode cX4_dancer 121 = .ok (.aload_n 0, 1) := by decide +kernel
theorem dX4_dancer_122 : decode cX4_dancer 122 = .ok (.getfield 56, 3) := by decide +kernel
theorem dX4_dancer_125 : decode cX4_dancer 125 = .ok (.iload_n 1, 1) := by decide +kernel
theorem dX4_dancer_126 : decode cX4_dancer 126 = .ok (.iastore, 1) := by decide +kernel
theorem dX4_dancer_127 : decode cX4_dancer 127 = .ok (.aload_n 0, 1) := by decide +kernel
theorem dX4_dancer_128 : decode cX4_dancer 128 = .ok (.getfield 13, 3) := by decide +kernel
theorem dX4_dancer_131 : decode cX4_dancer 131 = .ok (.aload_n 0, 1) := by decide +kernel
theorem dX4_dancer_132 : decode cX4_dancer 132 = .ok (.getfield 56, 3) := by decide +kernel
theorem dX4_dancer_135 : decode cX4_dancer 135 = .ok (.iload_n 2, 1) := by decide +kernel
theorem dX4_dancer_136 : decode cX4_dancer 136 = .ok (.iastore, 1) := by decide +kernel
theorem dX4_dancer_137 : decode cX4_dancer 137 = .ok (.aload_n 0, 1) := by decide +kernel
theorem dX4_dancer_138 : decode cX4_dancer 138 = .ok (.dup, 1) := by decide +kernel
theorem dX4_dancer_139 : decode cX4_dancer 139 = .ok (.getfield 56, 3) := by decide +kernel
theorem dX4_dancer_142 : decode cX4_dancer 142 = .ok (.iconst 1, 1) := by decide +kernel
theorem dX4_dancer_143 : decode cX4_dancer 143 = .ok (.iadd, 1) := by decide +kernel
theorem dX4_dancer_144 : decode cX4_dancer 144 = .ok (.putfield 56, 3) := by decide +kernel
theorem dX4_dancer_147 : decode cX4_dancer 147 = .ok (.aload_n 0, 1) := by decide +kernel
theorem dX4_dancer_148 : decode cX4_dancer 148 = .ok (.getfield 56, 3) := by decide +kernel
theorem dX4_dancer_151 : decode cX4_dancer 151 = .ok (.iconst 1, 1) := by decide +kernel
theorem dX4_dancer_152 : decode cX4_dancer 152 = .ok (.isub, 1) := by decide +kernel
theorem dX4_dancer_153 : decode cX4_dancer 153 = .ok (.ireturn, 1) := by decide +kernel
theorem dX4_move_0 : decode cX4_move 0 = .ok (.aload_n 0, 1) := by decide +kernel
theorem dX4_move_1 : decode cX4_move 1 = .ok (.iload_n 1, 1) := by decide +kernel
theorem dX4_move_2 : decode cX4_move 2 = .ok (.invokevirtual 67, 3) := by decide +kernel
theorem dX4_move_5 : decode cX4_move 5 = .ok (.ifCond .eq 15, 3) := by decide +kernel
theorem dX4_move_8 : decode cX4_move 8 = .ok (.aload_n 0, 1) := by decide +kernel
theorem dX4_move_9 : decode cX4_move 9 = .ok (.iload_n 2, 1) := by decide +kernel
theorem dX4_move_10 : decode cX4_move 10 = .ok (.invokevirtual 70, 3) := by decide +kernel
theorem dX4_move_13 : decode cX4_move 13 = .ok (.ifCond .eq 7, 3) := by decide +kernel
theorem dX4_move_16 : decode cX4_move 16 = .ok (.iconst 1, 1) := by decide +kernel
theorem dX4_move_17 : decode cX4_move 17 = .ok (.goto 4, 3) := by decide +kernel
theorem dX4_move_20 : decode cX4_move 20 = .ok (.iconst 0, 1) := by decide +kernel
theorem dX4_move_21 : decode cX4_move 21 = .ok (.istore 5, 2) := by decide +kernel
theorem dX4_move_23 : decode cX4_move 23 = .ok (.aload_n 0, 1) := by decide +kernel
theorem dX4_move_24 : decode cX4_move 24 = .ok (.iload 5, 2) := by decide +kernel
theorem dX4_move_26 : decode cX4_move 26 = .ok (.ifCond .ne 7, 3) := by decide +kernel
theorem dX4_move_29 : decode cX4_move 29 = .ok (.iconst 1, 1) := by decide +kernel
theorem dX4_move_30 : decode cX4_move 30 = .ok (.goto 45, 3) := by decide +kernel
theorem dX4_move_33 : decode cX4_move 33 = .ok (.aload_n 0, 1) := by decide +kernel
theorem dX4_move_34 : decode cX4_move 34 = .ok (.iload_n 3, 1) := by decide +kernel
theorem dX4_move_35 : decode cX4_move 35 = .ok (.bipush (-2), 2) := by decide +kernel
theorem dX4_move_37 : decode cX4_move 37 = .ok (.iconst 2, 1) := by decide +kernel
theorem dX4_move_38 : decode cX4_move 38 = .ok (.invokevirtual 59, 3) := by decide +kernel
theorem dX4_move_41 : decode cX4_move 41 = .ok (.ifCond .eq 15, 3) := by decide +kernel
theorem dX4_move_44 : decode cX4_move 44 = .ok (.aload_n 0, 1) := by decide +kernel
theorem dX4_move_45 : decode cX4_move 45 = .ok (.iload 4, 2) := by decide +kernel
theorem dX4_move_47 : decode cX4_move 47 = .ok (.bipush (-2), 2) := by decide +kernel
theorem dX4_move_49 : decode cX4_move 49 = .ok (.iconst 2, 1) := by decide +kernel
theorem dX4_move_50 : decode cX4_move 50 = .ok (.invokevirtual 59, 3) := by decide +kernel
theorem dX4_move_53 : decode cX4_move 53 = .ok (.ifCond .ne 7, 3) := by decide +kernel
theorem dX4_move_56 : decode cX4_move 56 = .ok (.iconst 2, 1) := by decide +kernel
theorem dX4_move_57 : decode cX4_move 57 = .ok (.goto 18, 3) := by decide +kernel
theorem dX4_move_60 : decode cX4_move 60 = .ok (.aload_n 0, 1) := by decide +kernel
theorem dX4_move_61 : decode cX4_move 61 = .ok (.getfield 16, 3) := by decide +kernel
theorem dX4_move_64 : decode cX4_move 64 = .ok (.iload_n 1, 1) := by decide +kernel
theorem dX4_move_65 : decode cX4_move 65 = .ok (.iaload, 1) := by decide +kernel
theorem dX4_move_66 : decode cX4_move 66 = .ok (.iconst 1, 1) := by decide +kernel
theorem dX4_move_67 : decode cX4_move 67 = .ok (.if_icmp .ne 7, 3) := by decide +kernel
theorem dX4_move_70 : decode cX4_move 70 = .ok (.iconst 3, 1) := by decide +kernel
theorem dX4_move_71 : decode cX4_move 71 = .ok (.goto 4, 3) := by decide +kernel
theorem dX4_move_74 : decode cX4_move 74 = .ok (.iconst 0, 1) := by decide +kernel
theorem dX4_move_75 : decode cX4_move 75 = .ok (.invokevirtual 63, 3) := by decide +kernel
theorem dX4_move_78 : decode cX4_move 78 = .ok (.ifCond .eq 5, 3) := by decide +kernel
theorem dX4_move_81 : decode cX4_move 81 = .ok (.iconst (-1), 1) := by decide +kernel
theorem dX4_move_82 : decode cX4_move 82 = .ok (.ireturn, 1) := by decide +kernel
theorem dX4_move_83 : decode cX4_move 83 = .ok (.aload_n 0, 1) := by decide +kernel
theorem dX4_move_84 : decode cX4_move 84 = .ok (.getfield 22, 3) := by decide +kernel
theorem dX4_move_87 : decode cX4_move 87 = .ok (.bipush 64, 2) := by decide +kernel
theorem dX4_move_89 : decode cX4_move 89 = .ok (.iload_n 1, 1) := by decide +kernel
theorem dX4_move_90 : decode cX4_move 90 = .ok (.imul, 1) := by decide +kernel
theorem dX4_move_91 : decode cX4_move 91 = .ok (.iload_n 2, 1) := by decide +kernel
theorem dX4_move_92 : decode cX4_move 92 = .ok (.iadd, 1) := by decide +kernel
theorem dX4_move_93 : decode cX4_move 93 = .ok (.iload_n 3, 1) := by decide +kernel
theorem dX4_move_94 : decode cX4_move 94 = .ok (.iastore, 1) := by decide +kernel
theorem dX4_move_95 : decode cX4_move 95 = .ok (.aload_n 0, 1) := by decide +kernel
theorem dX4_move_96 : decode cX4_move 96 = .ok (.getfield 25, 3) := by decide +kernel
theorem dX4_move_99 : decode cX4_move 99 = .ok (.bipush 64, 2) := by decide +kernel
theorem dX4_move_101 : decode cX4_move 101 = .ok (.iload_n 1, 1) := by decide +kernel
theorem dX4_move_102 : decode cX4_move 102 = .ok (.imul, 1) := by decide +kernel
theorem dX4_move_103 : decode cX4_move 103 = .ok (.iload_n 2, 1) := by decide +kernel
theorem dX4_move_104 : decode cX4_move 104 = .ok (.iadd, 1) := by decide +kernel
theorem dX4_move_105 : decode cX4_move 105 = .ok (.iload 4, 2) := by decide +kernel
theorem dX4_move_107 : decode cX4_move 107 = .ok (.iastore, 1) := by decide +kernel
theorem dX4_move_108 : decode cX4_move 108 = .ok (.iconst 0, 1) := by decide +kernel
theorem dX4_move_109 : decode cX4_move 109 = .ok (.istore 6, 2) := by decide +kernel
theorem dX4_move_111 : decode cX4_move 111 = .ok (.bipush 64, 2) := by decide +kernel
theorem dX4_move_113 : decode cX4_move 113 = .ok (.iload_n 1, 1) := by decide +kernel
theorem dX4_move_114 : decode cX4_move 114 = .ok (.imul, 1) := by decide +kernel
theorem dX4_move_115 : decode cX4_move 115 = .ok (.istore 7, 2) := by decide +kernel
theorem dX4_move_117 : decode cX4_move 117 = .ok (.iload 7, 2) := by decide +kernel
theorem dX4_move_119 : decode cX4_move 119 = .ok (.bipush 64, 2) := by decide +kernel
theorem dX4_move_121 : decode cX4_move 121 = .ok (.iload_n 1, 1) := by decide +kernel
theorem dX4_move_122 : decode cX4_move 122 = .ok (.imul, 1) := by decide +kernel
theorem dX4_move_123 : decode cX4_move 123 = .ok (.bipush 64, 2) := by decide +kernel
theorem dX4_move_125 : decode cX4_move 125 = .ok (.iadd, 1) := by decide +kernel
theorem dX4_move_126 : decode cX4_move 126 = .ok (.if_icmp .ge 39, 3) := by decide +kernel
theorem dX4_move_129 : decode cX4_move 129 = .ok (.iload 6, 2) := by decide +kernel
theorem dX4_move_131 : decode cX4_move 131 = .ok (.aload_n 0, 1) := by decide +kernel
theorem dX4_move_132 : decode cX4_move 132 = .ok (.getfield 22, 3) := by decide +kernel
theorem dX4_move_135 : decode cX4_move 135 = .ok (.iload 7, 2) := by decide +kernel
theorem dX4_move_137 : decode cX4_move 137 = .ok (.iaload, 1) := by decide +kernel
theorem dX4_move_138 : decode cX4_move 138 = .ok (.ifCond .ne 13, 3) := by decide +kernel
theorem dX4_move_141 : decode cX4_move 141 = .ok (.aload_n 0, 1) := by decide +kernel
theorem dX4_move_142 : decode cX4_move 142 = .ok (.getfield 25, 3) := by decide +kernel
theorem dX4_move_145 : decode cX4_move 145 = .ok (.iload 7, 2) := by decide +kernel
theorem dX4_move_147 : decode cX4_move 147 = .ok (.iaload, 1) := by decide +kernel
theorem dX4_move_148 : decode cX4_move 148 = .ok (.ifCond .eq 7, 3) := by decide +kernel
theorem dX4_move_151 : decode cX4_move 151 = .ok (.iconst 1, 1) := by decide +kernel
theorem dX4_move_152 : decode cX4_move 152 = .ok (.goto 4, 3) := by decide +kernel
theorem dX4_move_155 : decode cX4_move 155 = .ok (.iconst 0, 1) := by decide +kernel
theorem dX4_move_156 : decode cX4_move 156 = .ok (.iadd, 1) := by decide +kernel
theorem dX4_move_157 : decode cX4_move 157 = .ok (.istore 6, 2) := by decide +kernel
theorem dX4_move_159 : decode cX4_move 159 = .ok (.iinc 7 1, 3) := by decide +kernel
theorem dX4_move_162 : decode cX4_move 162 = .ok (.goto (-45), 3) := by decide +kernel
theorem dX4_move_165 : decode cX4_move 165 = .ok (.iload 6, 2) := by decide +kernel
theorem dX4_move_167 : decode cX4_move 167 = .ok (.ireturn, 1) := by decide +kernel
theorem dX4_x_0 : decode cX4_x 0 = .ok (.aload_n 0, 1) := by decide +kernel
theorem dX4_x_1 : decode cX4_x 1 = .ok (.getfield 7, 3) := by decide +kernel
theorem dX4_x_4 : decode cX4_x 4 = .ok (.iload_n 1, 1) := by decide +kernel
theorem dX4_x_5 : decode cX4_x 5 = .ok (.iaload, 1) := by decide +kernel
theorem dX4_x_6 : decode cX4_x 6 = .ok (.istore_n 3, 1) := by decide +kernel
theorem dX4_x_7 : decode cX4_x 7 = .ok (.bipush 64, 2) := by decide +kernel
theorem dX4_x_9 : decode cX4_x 9 = .ok (.iload_n 1, 1) := by decide +kernel
theorem dX4_x_10 : decode cX4_x 10 = .ok (.imul, 1) := by decide +kernel
theorem dX4_x_11 : decode cX4_x 11 = .ok (.istore 4, 2) := by decide +kernel
theorem dX4_x_13 : decode cX4_x 13 = .ok (.iload 4, 2) := by decide +kernel
theorem dX4_x_15 : decode cX4_x 15 = .ok (.bipush 64, 2) := by decide +kernel
theorem dX4_x_17 : decode cX4_x 17 = .ok (.iload_n 1, 1) := by decide +kernel
theorem dX4_x_18 : decode cX4_x 18 = .ok (.imul, 1) := by decide +kernel
theorem dX4_x_19 : decode cX4_x 19 = .ok (.iload_n 2, 1) := by decide +kernel
theorem dX4_x_20 : decode cX4_x 20 = .ok (.iadd, 1) := by decide +kernel
theorem dX4_x_21 : decode cX4_x 21 = .ok (.if_icmp .gt 19, 3) := by decide +kernel
theorem dX4_x_24 : decode cX4_x 24 = .ok (.iload_n 3, 1) := by decide +kernel
theorem dX4_x_25 : decode cX4_x 25 = .ok (.aload_n 0, 1) := by decide +kernel
theorem dX4_x_26 : decode cX4_x 26 = .ok (.getfield 22, 3) := by decide +kernel
theorem dX4_x_29 : decode cX4_x 29 = .ok (.iload 4, 2) := by decide +kernel
theorem dX4_x_31 : decode cX4_x 31 = .ok (.iaload, 1) := by decide +kernel
theorem dX4_x_32 : decode cX4_x 32 = .ok (.iadd, 1) := by decide +kernel
theorem dX4_x_33 : decode cX4_x 33 = .ok (.istore_n 3, 1) := by decide +kernel
theorem dX4_x_34 : decode cX4_x 34 = .ok (.iinc 4 1, 3) := by decide +kernel
theorem dX4_x_37 : decode cX4_x 37 = .ok (.goto (-24), 3) := by decide +kernel
theorem dX4_x_40 : decode cX4_x 40 = .ok (.iload_n 3, 1) := by decide +kernel
theorem dX4_x_41 : decode cX4_x 41 = .ok (.ireturn, 1) := by decide +kernel
theorem dX4_y_0 : decode cX4_y 0 = .ok (.aload_n 0, 1) := by decide +kernel
theorem dX4_y_1 : decode cX4_y 1 = .ok (.getfield 13, 3) := by decide +kernel
theorem dX4_y_4 : decode cX4_y 4 = .ok (.iload_n 1, 1) := by decide +kernel
theorem dX4_y_5 : decode cX4_y 5 = .ok (.iaload, 1) := by decide +kernel
theorem dX4_y_6 : decode cX4_y 6 = .ok (.istore_n 3, 1) := by decide +kernel
theorem dX4_y_7 : decode cX4_y 7 = .ok (.bipush 64, 2) := by decide +kernel
theorem dX4_y_9 : decode cX4_y 9 = .ok (.iload_n 1, 1) := by decide +kernel
theorem dX4_y_10 : decode cX4_y 10 = .ok (.imul, 1) := by decide +kernel
theorem dX4_y_11 : decode cX4_y 11 = .ok (.istore 4, 2) := by decide +kernel
theorem dX4_y_13 : decode cX4_y 13 = .ok (.iload 4, 2) := by decide +kernel
theorem dX4_y_15 : decode cX4_y 15 = .ok (.bipush 64, 2) := by decide +kernel
theorem dX4_y_17 : decode cX4_y 17 = .ok (.iload_n 1, 1) := by decide +kernel
theorem dX4_y_18 : decode cX4_y 18 = .ok (.imul, 1) := by decide +kernel
theorem dX4_y_19 : decode cX4_y 19 = .ok (.iload_n 2, 1) := by decide +kernel
theorem dX4_y_20 : decode cX4_y 20 = .ok (.iadd, 1) := by decide +kernel
theorem dX4_y_21 : decode cX4_y 21 = .ok (.if_icmp .gt 19, 3) := by decide +kernel
theorem dX4_y_24 : decode cX4_y 24 = .ok (.iload_n 3, 1) := by decide +kernel
theorem dX4_y_25 : decode cX4_y 25 = .ok (.aload_n 0, 1) := by decide +kernel
theorem dX4_y_26 : decode cX4_y 26 = .ok (.getfield 25, 3) := by decide +kernel
theorem dX4_y_29 : decode cX4_y 29 = .ok (.iload 4, 2) := by decide +kernel
theorem dX4_y_31 : decode cX4_y 31 = .ok (.iaload, 1) := by decide +kernel
theorem dX4_y_32 : decode cX4_y 32 = .ok (.iadd, 1) := by decide +kernel
theorem dX4_y_33 : decode cX4_y 33 = .ok (.istore_n 3, 1) := by decide +kernel
theorem dX4_y_34 : decode cX4_y 34 = .ok (.iinc 4 1, 3) := by decide +kernel
theorem dX4_y_37 : decode cX4_y 37 = .ok (.goto (-24), 3) := by decide +kernel
theorem dX4_y_40 : decode cX4_y 40 = .ok (.iload_n 3, 1) := by decide +kernel
theorem dX4_y_41 : decode cX4_y 41 = .ok (.ireturn, 1) := by decide +kernel
theorem dX4_place_0 : decode cX4_place 0 = .ok (.aload_n 0, 1) := by decide +kernel
theorem dX4_place_1 : decode cX4_place 1 = .ok (.aload_n 0, 1) := by decide +kernel
theorem dX4_place_2 : decode cX4_place 2 = .ok (.iload_n 1, 1) := by decide +kernel
theorem dX4_place_3 : decode cX4_place 3 = .ok (.invokevirtual 67, 3) := by decide +kernel
theorem dX4_place_6 : decode cX4_place 6 = .ok (.ifCond .eq 15, 3) := by decide +kernel
theorem dX4_place_9 : decode cX4_place 9 = .ok (.aload_n 0, 1) := by decide +kernel
theorem dX4_place_10 : decode cX4_place 10 = .ok (.iload_n 2, 1) := by decide +kernel
theorem dX4_place_11 : decode cX4_place 11 = .ok (.invokevirtual 70, 3) := by decide +kernel
theorem dX4_place_14 : decode cX4_place 14 = .ok (.ifCond .eq 7, 3) := by decide +kernel
theorem dX4_place_17 : decode cX4_place 17 = .ok (.iconst 0, 1) := by decide +kernel
theorem dX4_place_18 : decode cX4_place 18 = .ok (.goto 4, 3) := by decide +kernel
theorem dX4_place_21 : decode cX4_place 21 = .ok (.iconst 1, 1) := by decide +kernel
theorem dX4_place_22 : decode cX4_place 22 = .ok (.invokevirtual 63, 3) := by decide +kernel
theorem dX4_place_25 : decode cX4_place 25 = .ok (.ifCond .eq 7, 3) := by decide +kernel
theorem dX4_place_28 : decode cX4_place 28 = .ok (.iconst (-1), 1) := by decide +kernel
theorem dX4_place_29 : decode cX4_place 29 = .ok (.goto 22, 3) := by decide +kernel
theorem dX4_place_32 : decode cX4_place 32 = .ok (.iload_n 3, 1) := by decide +kernel
theorem dX4_place_33 : decode cX4_place 33 = .ok (.ifCond .eq 12, 3) := by decide +kernel
theorem dX4_place_36 : decode cX4_place 36 = .ok (.aload_n 0, 1) := by decide +kernel
theorem dX4_place_37 : decode cX4_place 37 = .ok (.iload_n 1, 1) := by decide +kernel
theorem dX4_place_38 : decode cX4_place 38 = .ok (.iload_n 2, 1) := by decide +kernel
theorem dX4_place_39 : decode cX4_place 39 = .ok (.invokevirtual 73, 3) := by decide +kernel
theorem dX4_place_42 : decode cX4_place 42 = .ok (.goto 9, 3) := by decide +kernel
theorem dX4_place_45 : decode cX4_place 45 = .ok (.aload_n 0, 1) := by decide +kernel
theorem dX4_place_46 : decode cX4_place 46 = .ok (.iload_n 1, 1) := by decide +kernel
theorem dX4_place_47 : decode cX4_place 47 = .ok (.iload_n 2, 1) := by decide +kernel
theorem dX4_place_48 : decode cX4_place 48 = .ok (.invokevirtual 77, 3) := by decide +kernel
theorem dX4_place_51 : decode cX4_place 51 = .ok (.ireturn, 1) := by decide +kernel
theorem dX4_placeAnew_0 : decode cX4_placeAnew 0 = .ok (.aload_n 0, 1) := by decide +kernel
theorem dX4_placeAnew_1 : decode cX4_placeAnew 1 = .ok (.aload_n 0, 1) := by decide +kernel
theorem dX4_placeAnew_2 : decode cX4_placeAnew 2 = .ok (.iload_n 1, 1) := by decide +kernel
theorem dX4_placeAnew_3 : decode cX4_placeAnew 3 = .ok (.invokevirtual 67, 3) := by decide +kernel
theorem dX4_placeAnew_6 : decode cX4_placeAnew 6 = .ok (.ifCond .eq 15, 3) := by decide +kernel
theorem dX4_placeAnew_9 : decode cX4_placeAnew 9 = .ok (.aload_n 0, 1) := by decide +kernel
theorem dX4_placeAnew_10 : decode cX4_placeAnew 10 = .ok (.iload_n 2, 1) := by decide +kernel
theorem dX4_placeAnew_11 : decode cX4_placeAnew 11 = .ok (.invokevirtual 70, 3) := by decide +kernel
theorem dX4_placeAnew_14 : decode cX4_placeAnew 14 = .ok (.ifCond .eq 7, 3) := by decide +kernel
theorem dX4_placeAnew_17 : decode cX4_placeAnew 17 = .ok (.iconst 0, 1) := by decide +kernel
theorem dX4_placeAnew_18 : decode cX4_placeAnew 18 = .ok (.goto 4, 3) := by decide +kernel
theorem dX4_placeAnew_21 : decode cX4_placeAnew 21 = .ok (.iconst 1, 1) := by decide +kernel
theorem dX4_placeAnew_22 : decode cX4_placeAnew 22 = .ok (.invokevirtual 63, 3) := by decide +kernel
theorem dX4_placeAnew_25 : decode cX4_placeAnew 25 = .ok (.ifCond .eq 7, 3) := by decide +kernel
theorem dX4_placeAnew_28 : decode cX4_placeAnew 28 = .ok (.iconst (-1), 1) := by decide +kernel
theorem dX4_placeAnew_29 : decode cX4_placeAnew 29 = .ok (.goto 22, 3) := by decide +kernel
theorem dX4_placeAnew_32 : decode cX4_placeAnew 32 = .ok (.iload_n 3, 1) := by decide +kernel
theorem dX4_placeAnew_33 : decode cX4_placeAnew 33 = .ok (.ifCond .eq 12, 3) := by decide +kernel
theorem dX4_placeAnew_36 : decode cX4_placeAnew 36 = .ok (.aload_n 0, 1) := by decide +kernel
theorem dX4_placeAnew_37 : decode cX4_placeAnew 37 = .ok (.iload_n 1, 1) := by decide +kernel
theorem dX4_placeAnew_38 : decode cX4_placeAnew 38 = .ok (.iload_n 2, 1) := by decide +kernel
theorem dX4_placeAnew_39 : decode cX4_placeAnew 39 = .ok (.invokevirtual 73, 3) := by decide +kernel
theorem dX4_placeAnew_42 : decode cX4_placeAnew 42 = .ok (.goto 9, 3) := by decide +kernel
theorem dX4_placeAnew_45 : decode cX4_placeAnew 45 = .ok (.aload_n 0, 1) := by decide +kernel
theorem dX4_placeAnew_46 : decode cX4_placeAnew 46 = .ok (.iload_n 1, 1) := by decide +kernel
theorem dX4_placeAnew_47 : decode cX4_placeAnew 47 = .ok (.iload_n 2, 1) := by decide +kernel
theorem dX4_placeAnew_48 : decode cX4_placeAnew 48 = .ok (.invokevirtual 77, 3) := by decide +kernel
theorem dX4_placeAnew_51 : decode cX4_placeAnew 51 = .ok (.ireturn, 1) := by decide +kernel
theorem dX4_isAt_0 : decode cX4_isAt 0 = .ok (.aload_n 0, 1) := by decide +kernel
theorem dX4_isAt_1 : decode cX4_isAt 1 = .ok (.iload_n 1, 1) := by decide +kernel
theorem dX4_isAt_2 : decode cX4_isAt 2 = .ok (.iload_n 2, 1) := by decide +kernel
theorem dX4_isAt_3 : decode cX4_isAt 3 = .ok (.invokevirtual 77, 3) := by decide +kernel
theorem dX4_isAt_6 : decode cX4_isAt 6 = .ok (.aload_n 0, 1) := by decide +kernel
theorem dX4_isAt_7 : decode cX4_isAt 7 = .ok (.iload_n 3, 1) := by decide +kernel
theorem dX4_isAt_8 : decode cX4_isAt 8 = .ok (.iload 4, 2) := by decide +kernel
theorem dX4_isAt_10 : decode cX4_isAt 10 = .ok (.invokevirtual 77, 3) := by decide +kernel
theorem dX4_isAt_13 : decode cX4_isAt 13 = .ok (.if_icmp .ne 23, 3) := by decide +kernel
theorem dX4_isAt_16 : decode cX4_isAt 16 = .ok (.aload_n 0, 1) := by decide +kernel
theorem dX4_isAt_17 : decode cX4_isAt 17 = .ok (.iload_n 1, 1) := by decide +kernel
theorem dX4_isAt_18 : decode cX4_isAt 18 = .ok (.iload_n 2, 1) := by decide +kernel
theorem dX4_isAt_19 : decode cX4_isAt 19 = .ok (.invokevirtual 73, 3) := by decide +kernel
theorem dX4_isAt_22 : decode cX4_isAt 22 = .ok (.aload_n 0, 1) := by decide +kernel
theorem dX4_isAt_23 : decode cX4_isAt 23 = .ok (.iload_n 3, 1) := by decide +kernel
theorem dX4_isAt_24 : decode cX4_isAt 24 = .ok (.iload 4, 2) := by decide +kernel
theorem dX4_isAt_26 : decode cX4_isAt 26 = .ok (.invokevirtual 73, 3) := by decide +kernel
theorem dX4_isAt_29 : decode cX4_isAt 29 = .ok (.if_icmp .ne 7, 3) := by decide +kernel
theorem dX4_isAt_32 : decode cX4_isAt 32 = .ok (.iconst 1, 1) := by decide +kernel
theorem dX4_isAt_33 : decode cX4_isAt 33 = .ok (.goto 4, 3) := by decide +kernel
theorem dX4_isAt_36 : decode cX4_isAt 36 = .ok (.iconst 0, 1) := by decide +kernel
theorem dX4_isAt_37 : decode cX4_isAt 37 = .ok (.ireturn, 1) := by decide +kernel
theorem dX4_clash_0 : decode cX4_clash 0 = .ok (.iconst 0, 1) := by decide +kernel
theorem dX4_clash_1 : decode cX4_clash 1 = .ok (.istore_n 2, 1) := by decide +kernel
theorem dX4_clash_2 : decode cX4_clash 2 = .ok (.iconst 0, 1) := by decide +kernel
theorem dX4_clash_3 : decode cX4_clash 3 = .ok (.istore_n 3, 1) := by decide +kernel
theorem dX4_clash_4 : decode cX4_clash 4 = .ok (.iload_n 3, 1) := by decide +kernel
theorem dX4_clash_5 : decode cX4_clash 5 = .ok (.aload_n 0, 1) := by decide +kernel
theorem dX4_clash_6 : decode cX4_clash 6 = .ok (.getfield 56, 3) := by decide +kernel
theorem dX4_clash_9 : decode cX4_clash 9 = .ok (.if_icmp .ge 112, 3) := by decide +kernel
theorem dX4_clash_12 : decode cX4_clash 12 = .ok (.iload_n 2, 1) := by decide +kernel
theorem dX4_clash_13 : decode cX4_clash 13 = .ok (.aload_n 0, 1) := by decide +kernel
theorem dX4_clash_14 : decode cX4_clash 14 = .ok (.aload_n 0, 1) := by decide +kernel
theorem dX4_clash_15 : decode cX4_clash 15 = .ok (.iload_n 3, 1) := by decide +kernel
theorem dX4_clash_16 : decode cX4_clash 16 = .ok (.iload_n 1, 1) := by decide +kernel
theorem dX4_clash_17 : decode cX4_clash 17 = .ok (.invokevirtual 77, 3) := by decide +kernel
theorem dX4_clash_20 : decode cX4_clash 20 = .ok (.iconst 0, 1) := by decide +kernel
theorem dX4_clash_21 : decode cX4_clash 21 = .ok (.bipush 7, 2) := by decide +kernel
theorem dX4_clash_23 : decode cX4_clash 23 = .ok (.invokevirtual 59, 3) := by decide +kernel
theorem dX4_clash_26 : decode cX4_clash 26 = .ok (.ifCond .eq 23, 3) := by decide +kernel
theorem dX4_clash_29 : decode cX4_clash 29 = .ok (.aload_n 0, 1) := by decide +kernel
theorem dX4_clash_30 : decode cX4_clash 30 = .ok (.aload_n 0, 1) := by decide +kernel
theorem dX4_clash_31 : decode cX4_clash 31 = .ok (.iload_n 3, 1) := by decide +kernel
theorem dX4_clash_32 : decode cX4_clash 32 = .ok (.iload_n 1, 1) := by decide +kernel
theorem dX4_clash_33 : decode cX4_clash 33 = .ok (.invokevirtual 73, 3) := by decide +kernel
theorem dX4_clash_36 : decode cX4_clash 36 = .ok (.iconst 0, 1) := by decide +kernel
theorem dX4_clash_37 : decode cX4_clash 37 = .ok (.bipush 7, 2) := by decide +kernel
theorem dX4_clash_39 : decode cX4_clash 39 = .ok (.invokevirtual 59, 3) := by decide +kernel
theorem dX4_clash_42 : decode cX4_clash 42 = .ok (.ifCond .eq 7, 3) := by decide +kernel
theorem dX4_clash_45 : decode cX4_clash 45 = .ok (.iconst 0, 1) := by decide +kernel
theorem dX4_clash_46 : decode cX4_clash 46 = .ok (.goto 4, 3) := by decide +kernel
theorem dX4_clash_49 : decode cX4_clash 49 = .ok (.iconst 1, 1) := by decide +kernel
theorem dX4_clash_50 : decode cX4_clash 50 = .ok (.iadd, 1) := by decide +kernel
theorem dX4_clash_51 : decode cX4_clash 51 = .ok (.istore_n 2, 1) := by decide +kernel
theorem dX4_clash_52 : decode cX4_clash 52 = .ok (.iconst 0, 1) := by decide +kernel
theorem dX4_clash_53 : decode cX4_clash 53 = .ok (.istore 4, 2) := by decide +kernel
theorem dX4_clash_55 : decode cX4_clash 55 = .ok (.iload 4, 2) := by decide +kernel
theorem dX4_clash_57 : decode cX4_clash 57 = .ok (.iload_n 3, 1) := by decide +kernel
theorem dX4_clash_58 : decode cX4_clash 58 = .ok (.if_icmp .ge 57, 3) := by decide +kernel
theorem dX4_clash_61 : decode cX4_clash 61 = .ok (.iload_n 2, 1) := by decide +kernel
theorem dX4_clash_62 : decode cX4_clash 62 = .ok (.aload_n 0, 1) := by decide +kernel
theorem dX4_clash_63 : decode cX4_clash 63 = .ok (.iload_n 3, 1) := by decide +kernel
theorem dX4_clash_64 : decode cX4_clash 64 = .ok (.iload_n 1, 1) := by decide +kernel
theorem dX4_clash_65 : decode cX4_clash 65 = .ok (.iload 4, 2) := by decide +kernel
theorem dX4_clash_67 : decode cX4_clash 67 = .ok (.iload_n 1, 1) := by decide +kernel
theorem dX4_clash_68 : decode cX4_clash 68 = .ok (.invokevirtual 80, 3) := by decide +kernel
theorem dX4_clash_71 : decode cX4_clash 71 = .ok (.ifCond .ne 31, 3) := by decide +kernel
theorem dX4_clash_74 : decode cX4_clash 74 = .ok (.aload_n 0, 1) := by decide +kernel
theorem dX4_clash_75 : decode cX4_clash 75 = .ok (.iload_n 3, 1) := by decide +kernel
theorem dX4_clash_76 : decode cX4_clash 76 = .ok (.iload_n 1, 1) := by decide +kernel
theorem dX4_clash_77 : decode cX4_clash 77 = .ok (.iload 4, 2) := by decide +kernel
theorem dX4_clash_79 : decode cX4_clash 79 = .ok (.iload_n 1, 1) := by decide +kernel
theorem dX4_clash_80 : decode cX4_clash 80 = .ok (.iconst 1, 1) := by decide +kernel
theorem dX4_clash_81 : decode cX4_clash 81 = .ok (.isub, 1) := by decide +kernel
theorem dX4_clash_82 : decode cX4_clash 82 = .ok (.invokevirtual 80, 3) := by decide +kernel
theorem dX4_clash_85 : decode cX4_clash 85 = .ok (.ifCond .eq 21, 3) := by decide +kernel
theorem dX4_clash_88 : decode cX4_clash 88 = .ok (.aload_n 0, 1) := by decide +kernel
theorem dX4_clash_89 : decode cX4_clash 89 = .ok (.iload 4, 2) := by decide +kernel
theorem dX4_clash_91 : decode cX4_clash 91 = .ok (.iload_n 1, 1) := by decide +kernel
theorem dX4_clash_92 : decode cX4_clash 92 = .ok (.iload_n 3, 1) := by decide +kernel
theorem dX4_clash_93 : decode cX4_clash 93 = .ok (.iload_n 1, 1) := by decide +kernel
theorem dX4_clash_94 : decode cX4_clash 94 = .ok (.iconst 1, 1) := by decide +kernel
theorem dX4_clash_95 : decode cX4_clash 95 = .ok (.isub, 1) := by decide +kernel
theorem dX4_clash_96 : decode cX4_clash 96 = .ok (.invokevirtual 80, 3) := by decide +kernel
theorem dX4_clash_99 : decode cX4_clash 99 = .ok (.ifCond .eq 7, 3) := by decide +kernel
theorem dX4_clash_102 : decode cX4_clash 102 = .ok (.iconst 1, 1) := by decide +kernel
theorem dX4_clash_103 : decode cX4_clash 103 = .ok (.goto 4, 3) := by decide +kernel
theorem dX4_clash_106 : decode cX4_clash 106 = .ok (.iconst 0, 1) := by decide +kernel
theorem dX4_clash_107 : decode cX4_clash 107 = .ok (.iadd, 1) := by decide +kernel
theorem dX4_clash_108 : decode cX4_clash 108 = .ok (.istore_n 2, 1) := by decide +kernel
theorem dX4_clash_109 : decode cX4_clash 109 = .ok (.iinc 4 1, 3) := by decide +kernel
theorem dX4_clash_112 : decode cX4_clash 112 = .ok (.goto (-57), 3) := by decide +kernel
theorem dX4_clash_115 : decode cX4_clash 115 = .ok (.iinc 3 1, 3) := by decide +kernel
theorem dX4_clash_118 : decode cX4_clash 118 = .ok (.goto (-114), 3) := by decide +kernel
theorem dX4_clash_121 : decode cX4_clash 121 = .ok (.iload_n 2, 1) := by decide +kernel
theorem dX4_clash_122 : decode cX4_clash 122 = .ok (.ireturn, 1) := by decide +kernel
theorem dX4_clashes_0 : decode cX4_clashes 0 = .ok (.aload_n 0, 1) := by decide +kernel
theorem dX4_clashes_1 : decode cX4_clashes 1 = .ok (.aload_n 0, 1) := by decide +kernel
theorem dX4_clashes_2 : decode cX4_clashes 2 = .ok (.iload_n 1, 1) := by decide +kernel
theorem dX4_clashes_3 : decode cX4_clashes 3 = .ok (.invokevirtual 70, 3) := by decide +kernel
theorem dX4_clashes_6 : decode cX4_clashes 6 = .ok (.ifCond .eq 7, 3) := by decide +kernel
theorem dX4_clashes_9 : decode cX4_clashes 9 = .ok (.iconst 0, 1) := by decide +kernel
theorem dX4_clashes_10 : decode cX4_clashes 10 = .ok (.goto 4, 3) := by decide +kernel
theorem dX4_clashes_13 : decode cX4_clashes 13 = .ok (.iconst 1, 1) := by decide +kernel
theorem dX4_clashes_14 : decode cX4_clashes 14 = .ok (.invokevirtual 63, 3) := by decide +kernel
theorem dX4_clashes_17 : decode cX4_clashes 17 = .ok (.ifCond .eq 7, 3) := by decide +kernel
theorem dX4_clashes_20 : decode cX4_clashes 20 = .ok (.iconst (-1), 1) := by decide +kernel
theorem dX4_clashes_21 : decode cX4_clashes 21 = .ok (.goto 8, 3) := by decide +kernel
theorem dX4_clashes_24 : decode cX4_clashes 24 = .ok (.aload_n 0, 1) := by decide +kernel
theorem dX4_clashes_25 : decode cX4_clashes 25 = .ok (.iload_n 1, 1) := by decide +kernel
theorem dX4_clashes_26 : decode cX4_clashes 26 = .ok (.invokevirtual 84, 3) := by decide +kernel
theorem dX4_clashes_29 : decode cX4_clashes 29 = .ok (.ireturn, 1) := by decide +kernel
theorem dX4_firstClash_0 : decode cX4_firstClash 0 = .ok (.aload_n 0, 1) := by decide +kernel
theorem dX4_firstClash_1 : decode cX4_firstClash 1 = .ok (.iconst 0, 1) := by decide +kernel
theorem dX4_firstClash_2 : decode cX4_firstClash 2 = .ok (.invokevirtual 63, 3) := by decide +kernel
theorem dX4_firstClash_5 : decode cX4_firstClash 5 = .ok (.pop, 1) := by decide +kernel
theorem dX4_firstClash_6 : decode cX4_firstClash 6 = .ok (.iconst 0, 1) := by decide +kernel
theorem dX4_firstClash_7 : decode cX4_firstClash 7 = .ok (.istore_n 1, 1) := by decide +kernel
theorem dX4_firstClash_8 : decode cX4_firstClash 8 = .ok (.iload_n 1, 1) := by decide +kernel
theorem dX4_firstClash_9 : decode cX4_firstClash 9 = .ok (.bipush 64, 2) := by decide +kernel
theorem dX4_firstClash_11 : decode cX4_firstClash 11 = .ok (.if_icmp .ge 19, 3) := by decide +kernel
theorem dX4_firstClash_14 : decode cX4_firstClash 14 = .ok (.aload_n 0, 1) := by decide +kernel
theorem dX4_firstClash_15 : decode cX4_firstClash 15 = .ok (.iload_n 1, 1) := by decide +kernel
theorem dX4_firstClash_16 : decode cX4_firstClash 16 = .ok (.invokevirtual 84, 3) := by decide +kernel
theorem dX4_firstClash_19 : decode cX4_firstClash 19 = .ok (.ifCond .le 5, 3) := by decide +kernel
theorem dX4_firstClash_22 : decode cX4_firstClash 22 = .ok (.iload_n 1, 1) := by decide +kernel
theorem dX4_firstClash_23 : decode cX4_firstClash 23 = .ok (.ireturn, 1) := by decide +kernel
theorem dX4_firstClash_24 : decode cX4_firstClash 24 = .ok (.iinc 1 1, 3) := by decide +kernel
theorem dX4_firstClash_27 : decode cX4_firstClash 27 = .ok (.goto (-19), 3) := by decide +kernel
theorem dX4_firstClash_30 : decode cX4_firstClash 30 = .ok (.iconst (-1), 1) := by decide +kernel
theorem dX4_firstClash_31 : decode cX4_firstClash 31 = .ok (.ireturn, 1) := by decide +kernel
theorem dX4_isOf_0 : decode cX4_isOf 0 = .ok (.aload_n 0, 1) := by decide +kernel
theorem dX4_isOf_1 : decode cX4_isOf 1 = .ok (.getfield 31, 3) := by decide +kernel
theorem dX4_isOf_4 : decode cX4_isOf 4 = .ok (.iload_n 1, 1) := by decide +kernel
theorem dX4_isOf_5 : decode cX4_isOf 5 = .ok (.iaload, 1) := by decide +kernel
theorem dX4_isOf_6 : decode cX4_isOf 6 = .ok (.iload_n 2, 1) := by decide +kernel
theorem dX4_isOf_7 : decode cX4_isOf 7 = .ok (.if_icmp .eq 23, 3) := by decide +kernel
theorem dX4_isOf_10 : decode cX4_isOf 10 = .ok (.aload_n 0, 1) := by decide +kernel
theorem dX4_isOf_11 : decode cX4_isOf 11 = .ok (.getfield 34, 3) := by decide +kernel
theorem dX4_isOf_14 : decode cX4_isOf 14 = .ok (.iload_n 1, 1) := by decide +kernel
theorem dX4_isOf_15 : decode cX4_isOf 15 = .ok (.iaload, 1) := by decide +kernel
theorem dX4_isOf_16 : decode cX4_isOf 16 = .ok (.iload_n 2, 1) := by decide +kernel
theorem dX4_isOf_17 : decode cX4_isOf 17 = .ok (.if_icmp .eq 13, 3) := by decide +kernel
theorem dX4_isOf_20 : decode cX4_isOf 20 = .ok (.aload_n 0, 1) := by decide +kernel
theorem dX4_isOf_21 : decode cX4_isOf 21 = .ok (.getfield 37, 3) := by decide +kernel
theorem dX4_isOf_24 : decode cX4_isOf 24 = .ok (.iload_n 1, 1) := by decide +kernel
theorem dX4_isOf_25 : decode cX4_isOf 25 = .ok (.iaload, 1) := by decide +kernel
theorem dX4_isOf_26 : decode cX4_isOf 26 = .ok (.iload_n 2, 1) := by decide +kernel
theorem dX4_isOf_27 : decode cX4_isOf 27 = .ok (.if_icmp .ne 7, 3) := by decide +kernel
theorem dX4_isOf_30 : decode cX4_isOf 30 = .ok (.iconst 1, 1) := by decide +kernel
theorem dX4_isOf_31 : decode cX4_isOf 31 = .ok (.goto 4, 3) := by decide +kernel
theorem dX4_isOf_34 : decode cX4_isOf 34 = .ok (.iconst 0, 1) := by decide +kernel
theorem dX4_isOf_35 : decode cX4_isOf 35 = .ok (.ireturn, 1) := by decide +kernel
theorem dX4_liftsOf_0 : decode cX4_liftsOf 0 = .ok (.iconst 0, 1) := by decide +kernel
theorem dX4_liftsOf_1 : decode cX4_liftsOf 1 = .ok (.istore_n 3, 1) := by decide +kernel
theorem dX4_liftsOf_2 : decode cX4_liftsOf 2 = .ok (.iconst 0, 1) := by decide +kernel
theorem dX4_liftsOf_3 : decode cX4_liftsOf 3 = .ok (.istore 4, 2) := by decide +kernel
theorem dX4_liftsOf_5 : decode cX4_liftsOf 5 = .ok (.iload 4, 2) := by decide +kernel
theorem dX4_liftsOf_7 : decode cX4_liftsOf 7 = .ok (.aload_n 0, 1) := by decide +kernel
theorem dX4_liftsOf_8 : decode cX4_liftsOf 8 = .ok (.getfield 88, 3) := by decide +kernel
theorem dX4_liftsOf_11 : decode cX4_liftsOf 11 = .ok (.if_icmp .ge 48, 3) := by decide +kernel
theorem dX4_liftsOf_14 : decode cX4_liftsOf 14 = .ok (.iload_n 3, 1) := by decide +kernel
theorem dX4_liftsOf_15 : decode cX4_liftsOf 15 = .ok (.aload_n 0, 1) := by decide +kernel
theorem dX4_liftsOf_16 : decode cX4_liftsOf 16 = .ok (.getfield 40, 3) := by decide +kernel
theorem dX4_liftsOf_19 : decode cX4_liftsOf 19 = .ok (.iload 4, 2) := by decide +kernel
theorem dX4_liftsOf_21 : decode cX4_liftsOf 21 = .ok (.iaload, 1) := by decide +kernel
theorem dX4_liftsOf_22 : decode cX4_liftsOf 22 = .ok (.ifCond .ne 28, 3) := by decide +kernel
theorem dX4_liftsOf_25 : decode cX4_liftsOf 25 = .ok (.aload_n 0, 1) := by decide +kernel
theorem dX4_liftsOf_26 : decode cX4_liftsOf 26 = .ok (.getfield 28, 3) := by decide +kernel
theorem dX4_liftsOf_29 : decode cX4_liftsOf 29 = .ok (.iload 4, 2) := by decide +kernel
theorem dX4_liftsOf_31 : decode cX4_liftsOf 31 = .ok (.iaload, 1) := by decide +kernel
theorem dX4_liftsOf_32 : decode cX4_liftsOf 32 = .ok (.iload_n 2, 1) := by decide +kernel
theorem dX4_liftsOf_33 : decode cX4_liftsOf 33 = .ok (.if_icmp .ne 17, 3) := by decide +kernel
theorem dX4_liftsOf_36 : decode cX4_liftsOf 36 = .ok (.aload_n 0, 1) := by decide +kernel
theorem dX4_liftsOf_37 : decode cX4_liftsOf 37 = .ok (.iload 4, 2) := by decide +kernel
theorem dX4_liftsOf_39 : decode cX4_liftsOf 39 = .ok (.iload_n 1, 1) := by decide +kernel
theorem dX4_liftsOf_40 : decode cX4_liftsOf 40 = .ok (.invokevirtual 91, 3) := by decide +kernel
theorem dX4_liftsOf_43 : decode cX4_liftsOf 43 = .ok (.ifCond .eq 7, 3) := by decide +kernel
theorem dX4_liftsOf_46 : decode cX4_liftsOf 46 = .ok (.iconst 1, 1) := by decide +kernel
theorem dX4_liftsOf_47 : decode cX4_liftsOf 47 = .ok (.goto 4, 3) := by decide +kernel
theorem dX4_liftsOf_50 : decode cX4_liftsOf 50 = .ok (.iconst 0, 1) := by decide +kernel
theorem dX4_liftsOf_51 : decode cX4_liftsOf 51 = .ok (.iadd, 1) := by decide +kernel
theorem dX4_liftsOf_52 : decode cX4_liftsOf 52 = .ok (.istore_n 3, 1) := by decide +kernel
theorem dX4_liftsOf_53 : decode cX4_liftsOf 53 = .ok (.iinc 4 1, 3) := by decide +kernel
theorem dX4_liftsOf_56 : decode cX4_liftsOf 56 = .ok (.goto (-51), 3) := by decide +kernel
theorem dX4_liftsOf_59 : decode cX4_liftsOf 59 = .ok (.iload_n 3, 1) := by decide +kernel
theorem dX4_liftsOf_60 : decode cX4_liftsOf 60 = .ok (.ireturn, 1) := by decide +kernel
theorem dX4_isBeside_0 : decode cX4_isBeside 0 = .ok (.aload_n 0, 1) := by decide +kernel
theorem dX4_isBeside_1 : decode cX4_isBeside 1 = .ok (.iload_n 1, 1) := by decide +kernel
theorem dX4_isBeside_2 : decode cX4_isBeside 2 = .ok (.iload_n 3, 1) := by decide +kernel
theorem dX4_isBeside_3 : decode cX4_isBeside 3 = .ok (.iload_n 2, 1) := by decide +kernel
theorem dX4_isBeside_4 : decode cX4_isBeside 4 = .ok (.iload_n 3, 1) := by decide +kernel
theorem dX4_isBeside_5 : decode cX4_isBeside 5 = .ok (.invokevirtual 80, 3) := by decide +kernel
theorem dX4_isBeside_8 : decode cX4_isBeside 8 = .ok (.ifCond .ne 51, 3) := by decide +kernel
theorem dX4_isBeside_11 : decode cX4_isBeside 11 = .ok (.aload_n 0, 1) := by decide +kernel
theorem dX4_isBeside_12 : decode cX4_isBeside 12 = .ok (.aload_n 0, 1) := by decide +kernel
theorem dX4_isBeside_13 : decode cX4_isBeside 13 = .ok (.iload_n 1, 1) := by decide +kernel
theorem dX4_isBeside_14 : decode cX4_isBeside 14 = .ok (.iload_n 3, 1) := by decide +kernel
theorem dX4_isBeside_15 : decode cX4_isBeside 15 = .ok (.invokevirtual 77, 3) := by decide +kernel
theorem dX4_isBeside_18 : decode cX4_isBeside 18 = .ok (.aload_n 0, 1) := by decide +kernel
theorem dX4_isBeside_19 : decode cX4_isBeside 19 = .ok (.iload_n 2, 1) := by decide +kernel
theorem dX4_isBeside_20 : decode cX4_isBeside 20 = .ok (.iload_n 3, 1) := by decide +kernel
theorem dX4_isBeside_21 : decode cX4_isBeside 21 = .ok (.invokevirtual 77, 3) := by decide +kernel
theorem dX4_isBeside_24 : decode cX4_isBeside 24 = .ok (.isub, 1) := by decide +kernel
theorem dX4_isBeside_25 : decode cX4_isBeside 25 = .ok (.iconst (-1), 1) := by decide +kernel
theorem dX4_isBeside_26 : decode cX4_isBeside 26 = .ok (.iconst 1, 1) := by decide +kernel
theorem dX4_isBeside_27 : decode cX4_isBeside 27 = .ok (.invokevirtual 59, 3) := by decide +kernel
theorem dX4_isBeside_30 : decode cX4_isBeside 30 = .ok (.ifCond .eq 29, 3) := by decide +kernel
theorem dX4_isBeside_33 : decode cX4_isBeside 33 = .ok (.aload_n 0, 1) := by decide +kernel
theorem dX4_isBeside_34 : decode cX4_isBeside 34 = .ok (.aload_n 0, 1) := by decide +kernel
theorem dX4_isBeside_35 : decode cX4_isBeside 35 = .ok (.iload_n 1, 1) := by decide +kernel
theorem dX4_isBeside_36 : decode cX4_isBeside 36 = .ok (.iload_n 3, 1) := by decide +kernel
theorem dX4_isBeside_37 : decode cX4_isBeside 37 = .ok (.invokevirtual 73, 3) := by decide +kernel
theorem dX4_isBeside_40 : decode cX4_isBeside 40 = .ok (.aload_n 0, 1) := by decide +kernel
theorem dX4_isBeside_41 : decode cX4_isBeside 41 = .ok (.iload_n 2, 1) := by decide +kernel
theorem dX4_isBeside_42 : decode cX4_isBeside 42 = .ok (.iload_n 3, 1) := by decide +kernel
theorem dX4_isBeside_43 : decode cX4_isBeside 43 = .ok (.invokevirtual 73, 3) := by decide +kernel
theorem dX4_isBeside_46 : decode cX4_isBeside 46 = .ok (.isub, 1) := by decide +kernel
theorem dX4_isBeside_47 : decode cX4_isBeside 47 = .ok (.iconst (-1), 1) := by decide +kernel
theorem dX4_isBeside_48 : decode cX4_isBeside 48 = .ok (.iconst 1, 1) := by decide +kernel
theorem dX4_isBeside_49 : decode cX4_isBeside 49 = .ok (.invokevirtual 59, 3) := by decide +kernel
theorem dX4_isBeside_52 : decode cX4_isBeside 52 = .ok (.ifCond .eq 7, 3) := by decide +kernel
theorem dX4_isBeside_55 : decode cX4_isBeside 55 = .ok (.iconst 1, 1) := by decide +kernel
theorem dX4_isBeside_56 : decode cX4_isBeside 56 = .ok (.goto 4, 3) := by decide +kernel
theorem dX4_isBeside_59 : decode cX4_isBeside 59 = .ok (.iconst 0, 1) := by decide +kernel
theorem dX4_isBeside_60 : decode cX4_isBeside 60 = .ok (.ireturn, 1) := by decide +kernel
theorem dX4_stands_0 : decode cX4_stands 0 = .ok (.aload_n 0, 1) := by decide +kernel
theorem dX4_stands_1 : decode cX4_stands 1 = .ok (.getfield 28, 3) := by decide +kernel
theorem dX4_stands_4 : decode cX4_stands 4 = .ok (.iload_n 1, 1) := by decide +kernel
theorem dX4_stands_5 : decode cX4_stands 5 = .ok (.iaload, 1) := by decide +kernel
theorem dX4_stands_6 : decode cX4_stands 6 = .ok (.istore_n 2, 1) := by decide +kernel
theorem dX4_stands_7 : decode cX4_stands 7 = .ok (.aload_n 0, 1) := by decide +kernel
theorem dX4_stands_8 : decode cX4_stands 8 = .ok (.aload_n 0, 1) := by decide +kernel
theorem dX4_stands_9 : decode cX4_stands 9 = .ok (.getfield 34, 3) := by decide +kernel
theorem dX4_stands_12 : decode cX4_stands 12 = .ok (.iload_n 1, 1) := by decide +kernel
theorem dX4_stands_13 : decode cX4_stands 13 = .ok (.iaload, 1) := by decide +kernel
theorem dX4_stands_14 : decode cX4_stands 14 = .ok (.aload_n 0, 1) := by decide +kernel
theorem dX4_stands_15 : decode cX4_stands 15 = .ok (.getfield 31, 3) := by decide +kernel
theorem dX4_stands_18 : decode cX4_stands 18 = .ok (.iload_n 1, 1) := by decide +kernel
theorem dX4_stands_19 : decode cX4_stands 19 = .ok (.iaload, 1) := by decide +kernel
theorem dX4_stands_20 : decode cX4_stands 20 = .ok (.iload_n 2, 1) := by decide +kernel
theorem dX4_stands_21 : decode cX4_stands 21 = .ok (.invokevirtual 95, 3) := by decide +kernel
theorem dX4_stands_24 : decode cX4_stands 24 = .ok (.ifCond .eq 27, 3) := by decide +kernel
theorem dX4_stands_27 : decode cX4_stands 27 = .ok (.aload_n 0, 1) := by decide +kernel
theorem dX4_stands_28 : decode cX4_stands 28 = .ok (.aload_n 0, 1) := by decide +kernel
theorem dX4_stands_29 : decode cX4_stands 29 = .ok (.getfield 37, 3) := by decide +kernel
theorem dX4_stands_32 : decode cX4_stands 32 = .ok (.iload_n 1, 1) := by decide +kernel
theorem dX4_stands_33 : decode cX4_stands 33 = .ok (.iaload, 1) := by decide +kernel
theorem dX4_stands_34 : decode cX4_stands 34 = .ok (.aload_n 0, 1) := by decide +kernel
theorem dX4_stands_35 : decode cX4_stands 35 = .ok (.getfield 31, 3) := by decide +kernel
theorem dX4_stands_38 : decode cX4_stands 38 = .ok (.iload_n 1, 1) := by decide +kernel
theorem dX4_stands_39 : decode cX4_stands 39 = .ok (.iaload, 1) := by decide +kernel
theorem dX4_stands_40 : decode cX4_stands 40 = .ok (.iload_n 2, 1) := by decide +kernel
theorem dX4_stands_41 : decode cX4_stands 41 = .ok (.invokevirtual 95, 3) := by decide +kernel
theorem dX4_stands_44 : decode cX4_stands 44 = .ok (.ifCond .eq 7, 3) := by decide +kernel
theorem dX4_stands_47 : decode cX4_stands 47 = .ok (.iconst 1, 1) := by decide +kernel
theorem dX4_stands_48 : decode cX4_stands 48 = .ok (.goto 4, 3) := by decide +kernel
theorem dX4_stands_51 : decode cX4_stands 51 = .ok (.iconst 0, 1) := by decide +kernel
theorem dX4_stands_52 : decode cX4_stands 52 = .ok (.istore_n 3, 1) := by decide +kernel
theorem dX4_stands_53 : decode cX4_stands 53 = .ok (.aload_n 0, 1) := by decide +kernel
theorem dX4_stands_54 : decode cX4_stands 54 = .ok (.aload_n 0, 1) := by decide +kernel
theorem dX4_stands_55 : decode cX4_stands 55 = .ok (.getfield 31, 3) := by decide +kernel
theorem dX4_stands_58 : decode cX4_stands 58 = .ok (.iload_n 1, 1) := by decide +kernel
theorem dX4_stands_59 : decode cX4_stands 59 = .ok (.iaload, 1) := by decide +kernel
theorem dX4_stands_60 : decode cX4_stands 60 = .ok (.iload_n 2, 1) := by decide +kernel
theorem dX4_stands_61 : decode cX4_stands 61 = .ok (.invokevirtual 98, 3) := by decide +kernel
theorem dX4_stands_64 : decode cX4_stands 64 = .ok (.iconst 1, 1) := by decide +kernel
theorem dX4_stands_65 : decode cX4_stands 65 = .ok (.if_icmp .ne 37, 3) := by decide +kernel
theorem dX4_stands_68 : decode cX4_stands 68 = .ok (.aload_n 0, 1) := by decide +kernel
theorem dX4_stands_69 : decode cX4_stands 69 = .ok (.aload_n 0, 1) := by decide +kernel
theorem dX4_stands_70 : decode cX4_stands 70 = .ok (.getfield 34, 3) := by decide +kernel
theorem dX4_stands_73 : decode cX4_stands 73 = .ok (.iload_n 1, 1) := by decide +kernel
theorem dX4_stands_74 : decode cX4_stands 74 = .ok (.iaload, 1) := by decide +kernel
theorem dX4_stands_75 : decode cX4_stands 75 = .ok (.iload_n 2, 1) := by decide +kernel
theorem dX4_stands_76 : decode cX4_stands 76 = .ok (.invokevirtual 98, 3) := by decide +kernel
theorem dX4_stands_79 : decode cX4_stands 79 = .ok (.iconst 1, 1) := by decide +kernel
theorem dX4_stands_80 : decode cX4_stands 80 = .ok (.if_icmp .ne 22, 3) := by decide +kernel
theorem dX4_stands_83 : decode cX4_stands 83 = .ok (.aload_n 0, 1) := by decide +kernel
theorem dX4_stands_84 : decode cX4_stands 84 = .ok (.aload_n 0, 1) := by decide +kernel
theorem dX4_stands_85 : decode cX4_stands 85 = .ok (.getfield 37, 3) := by decide +kernel
theorem dX4_stands_88 : decode cX4_stands 88 = .ok (.iload_n 1, 1) := by decide +kernel
theorem dX4_stands_89 : decode cX4_stands 89 = .ok (.iaload, 1) := by decide +kernel
theorem dX4_stands_90 : decode cX4_stands 90 = .ok (.iload_n 2, 1) := by decide +kernel
theorem dX4_stands_91 : decode cX4_stands 91 = .ok (.invokevirtual 98, 3) := by decide +kernel
theorem dX4_stands_94 : decode cX4_stands 94 = .ok (.iconst 1, 1) := by decide +kernel
theorem dX4_stands_95 : decode cX4_stands 95 = .ok (.if_icmp .ne 7, 3) := by decide +kernel
theorem dX4_stands_98 : decode cX4_stands 98 = .ok (.iconst 1, 1) := by decide +kernel
theorem dX4_stands_99 : decode cX4_stands 99 = .ok (.goto 4, 3) := by decide +kernel
theorem dX4_stands_102 : decode cX4_stands 102 = .ok (.iconst 0, 1) := by decide +kernel
theorem dX4_stands_103 : decode cX4_stands 103 = .ok (.istore 4, 2) := by decide +kernel
theorem dX4_stands_105 : decode cX4_stands 105 = .ok (.iload_n 3, 1) := by decide +kernel
theorem dX4_stands_106 : decode cX4_stands 106 = .ok (.ifCond .eq 50, 3) := by decide +kernel
theorem dX4_stands_109 : decode cX4_stands 109 = .ok (.iload 4, 2) := by decide +kernel
theorem dX4_stands_111 : decode cX4_stands 111 = .ok (.ifCond .eq 45, 3) := by decide +kernel
theorem dX4_stands_114 : decode cX4_stands 114 = .ok (.aload_n 0, 1) := by decide +kernel
theorem dX4_stands_115 : decode cX4_stands 115 = .ok (.getfield 16, 3) := by decide +kernel
theorem dX4_stands_118 : decode cX4_stands 118 = .ok (.aload_n 0, 1) := by decide +kernel
theorem dX4_stands_119 : decode cX4_stands 119 = .ok (.getfield 31, 3) := by decide +kernel
theorem dX4_stands_122 : decode cX4_stands 122 = .ok (.iload_n 1, 1) := by decide +kernel
theorem dX4_stands_123 : decode cX4_stands 123 = .ok (.iaload, 1) := by decide +kernel
theorem dX4_stands_124 : decode cX4_stands 124 = .ok (.iaload, 1) := by decide +kernel
theorem dX4_stands_125 : decode cX4_stands 125 = .ok (.aload_n 0, 1) := by decide +kernel
theorem dX4_stands_126 : decode cX4_stands 126 = .ok (.getfield 16, 3) := by decide +kernel
theorem dX4_stands_129 : decode cX4_stands 129 = .ok (.aload_n 0, 1) := by decide +kernel
theorem dX4_stands_130 : decode cX4_stands 130 = .ok (.getfield 34, 3) := by decide +kernel
theorem dX4_stands_133 : decode cX4_stands 133 = .ok (.iload_n 1, 1) := by decide +kernel
theorem dX4_stands_134 : decode cX4_stands 134 = .ok (.iaload, 1) := by decide +kernel
theorem dX4_stands_135 : decode cX4_stands 135 = .ok (.iaload, 1) := by decide +kernel
theorem dX4_stands_136 : decode cX4_stands 136 = .ok (.iadd, 1) := by decide +kernel
theorem dX4_stands_137 : decode cX4_stands 137 = .ok (.aload_n 0, 1) := by decide +kernel
theorem dX4_stands_138 : decode cX4_stands 138 = .ok (.getfield 16, 3) := by decide +kernel
theorem dX4_stands_141 : decode cX4_stands 141 = .ok (.aload_n 0, 1) := by decide +kernel
theorem dX4_stands_142 : decode cX4_stands 142 = .ok (.getfield 37, 3) := by decide +kernel
theorem dX4_stands_145 : decode cX4_stands 145 = .ok (.iload_n 1, 1) := by decide +kernel
theorem dX4_stands_146 : decode cX4_stands 146 = .ok (.iaload, 1) := by decide +kernel
theorem dX4_stands_147 : decode cX4_stands 147 = .ok (.iaload, 1) := by decide +kernel
theorem dX4_stands_148 : decode cX4_stands 148 = .ok (.iadd, 1) := by decide +kernel
theorem dX4_stands_149 : decode cX4_stands 149 = .ok (.ifCond .ne 7, 3) := by decide +kernel
theorem dX4_stands_152 : decode cX4_stands 152 = .ok (.iconst 1, 1) := by decide +kernel
theorem dX4_stands_153 : decode cX4_stands 153 = .ok (.goto 4, 3) := by decide +kernel
theorem dX4_stands_156 : decode cX4_stands 156 = .ok (.iconst 0, 1) := by decide +kernel
theorem dX4_stands_157 : decode cX4_stands 157 = .ok (.ireturn, 1) := by decide +kernel
theorem dX4_lift_0 : decode cX4_lift 0 = .ok (.aload_n 0, 1) := by decide +kernel
theorem dX4_lift_1 : decode cX4_lift 1 = .ok (.iload_n 1, 1) := by decide +kernel
theorem dX4_lift_2 : decode cX4_lift 2 = .ok (.invokevirtual 70, 3) := by decide +kernel
theorem dX4_lift_5 : decode cX4_lift 5 = .ok (.ifCond .eq 32, 3) := by decide +kernel
theorem dX4_lift_8 : decode cX4_lift 8 = .ok (.aload_n 0, 1) := by decide +kernel
theorem dX4_lift_9 : decode cX4_lift 9 = .ok (.iload_n 2, 1) := by decide +kernel
theorem dX4_lift_10 : decode cX4_lift 10 = .ok (.invokevirtual 67, 3) := by decide +kernel
theorem dX4_lift_13 : decode cX4_lift 13 = .ok (.ifCond .eq 24, 3) := by decide +kernel
theorem dX4_lift_16 : decode cX4_lift 16 = .ok (.aload_n 0, 1) := by decide +kernel
theorem dX4_lift_17 : decode cX4_lift 17 = .ok (.iload_n 3, 1) := by decide +kernel
theorem dX4_lift_18 : decode cX4_lift 18 = .ok (.invokevirtual 67, 3) := by decide +kernel
theorem dX4_lift_21 : decode cX4_lift 21 = .ok (.ifCond .eq 16, 3) := by decide +kernel
theorem dX4_lift_24 : decode cX4_lift 24 = .ok (.aload_n 0, 1) := by decide +kernel
theorem dX4_lift_25 : decode cX4_lift 25 = .ok (.iload 4, 2) := by decide +kernel
theorem dX4_lift_27 : decode cX4_lift 27 = .ok (.invokevirtual 67, 3) := by decide +kernel
theorem dX4_lift_30 : decode cX4_lift 30 = .ok (.ifCond .eq 7, 3) := by decide +kernel
theorem dX4_lift_33 : decode cX4_lift 33 = .ok (.iconst 1, 1) := by decide +kernel
theorem dX4_lift_34 : decode cX4_lift 34 = .ok (.goto 4, 3) := by decide +kernel
theorem dX4_lift_37 : decode cX4_lift 37 = .ok (.iconst 0, 1) := by decide +kernel
theorem dX4_lift_38 : decode cX4_lift 38 = .ok (.istore 5, 2) := by decide +kernel
theorem dX4_lift_40 : decode cX4_lift 40 = .ok (.iload 5, 2) := by decide +kernel
theorem dX4_lift_42 : decode cX4_lift 42 = .ok (.ifCond .eq 40, 3) := by decide +kernel
theorem dX4_lift_45 : decode cX4_lift 45 = .ok (.aload_n 0, 1) := by decide +kernel
theorem dX4_lift_46 : decode cX4_lift 46 = .ok (.getfield 16, 3) := by decide +kernel
theorem dX4_lift_49 : decode cX4_lift 49 = .ok (.iload_n 2, 1) := by decide +kernel
theorem dX4_lift_50 : decode cX4_lift 50 = .ok (.iaload, 1) := by decide +kernel
theorem dX4_lift_51 : decode cX4_lift 51 = .ok (.aload_n 0, 1) := by decide +kernel
theorem dX4_lift_52 : decode cX4_lift 52 = .ok (.getfield 16, 3) := by decide +kernel
theorem dX4_lift_55 : decode cX4_lift 55 = .ok (.iload_n 3, 1) := by decide +kernel
theorem dX4_lift_56 : decode cX4_lift 56 = .ok (.iaload, 1) := by decide +kernel
theorem dX4_lift_57 : decode cX4_lift 57 = .ok (.iadd, 1) := by decide +kernel
theorem dX4_lift_58 : decode cX4_lift 58 = .ok (.aload_n 0, 1) := by decide +kernel
theorem dX4_lift_59 : decode cX4_lift 59 = .ok (.getfield 16, 3) := by decide +kernel
theorem dX4_lift_62 : decode cX4_lift 62 = .ok (.iload 4, 2) := by decide +kernel
theorem dX4_lift_64 : decode cX4_lift 64 = .ok (.iaload, 1) := by decide +kernel
theorem dX4_lift_65 : decode cX4_lift 65 = .ok (.iadd, 1) := by decide +kernel
theorem dX4_lift_66 : decode cX4_lift 66 = .ok (.ifCond .gt 12, 3) := by decide +kernel
theorem dX4_lift_69 : decode cX4_lift 69 = .ok (.aload_n 0, 1) := by decide +kernel
theorem dX4_lift_70 : decode cX4_lift 70 = .ok (.getfield 88, 3) := by decide +kernel
theorem dX4_lift_73 : decode cX4_lift 73 = .ok (.bipush 12, 2) := by decide +kernel
theorem dX4_lift_75 : decode cX4_lift 75 = .ok (.if_icmp .ne 7, 3) := by decide +kernel
theorem dX4_lift_78 : decode cX4_lift 78 = .ok (.iconst 1, 1) := by decide +kernel
theorem dX4_lift_79 : decode cX4_lift 79 = .ok (.goto 4, 3) := by decide +kernel
theorem dX4_lift_82 : decode cX4_lift 82 = .ok (.iconst 0, 1) := by decide +kernel
theorem dX4_lift_83 : decode cX4_lift 83 = .ok (.istore 6, 2) := by decide +kernel
theorem dX4_lift_85 : decode cX4_lift 85 = .ok (.aload_n 0, 1) := by decide +kernel
theorem dX4_lift_86 : decode cX4_lift 86 = .ok (.iload 5, 2) := by decide +kernel
theorem dX4_lift_88 : decode cX4_lift 88 = .ok (.ifCond .ne 7, 3) := by decide +kernel
theorem dX4_lift_91 : decode cX4_lift 91 = .ok (.iconst 1, 1) := by decide +kernel
theorem dX4_lift_92 : decode cX4_lift 92 = .ok (.goto 34, 3) := by decide +kernel
theorem dX4_lift_95 : decode cX4_lift 95 = .ok (.iload_n 2, 1) := by decide +kernel
theorem dX4_lift_96 : decode cX4_lift 96 = .ok (.iload_n 3, 1) := by decide +kernel
theorem dX4_lift_97 : decode cX4_lift 97 = .ok (.if_icmp .eq 15, 3) := by decide +kernel
theorem dX4_lift_100 : decode cX4_lift 100 = .ok (.iload_n 2, 1) := by decide +kernel
theorem dX4_lift_101 : decode cX4_lift 101 = .ok (.iload 4, 2) := by decide +kernel
theorem dX4_lift_103 : decode cX4_lift 103 = .ok (.if_icmp .eq 9, 3) := by decide +kernel
theorem dX4_lift_106 : decode cX4_lift 106 = .ok (.iload_n 3, 1) := by decide +kernel
theorem dX4_lift_107 : decode cX4_lift 107 = .ok (.iload 4, 2) := by decide +kernel
theorem dX4_lift_109 : decode cX4_lift 109 = .ok (.if_icmp .ne 7, 3) := by decide +kernel
theorem dX4_lift_112 : decode cX4_lift 112 = .ok (.iconst 2, 1) := by decide +kernel
theorem dX4_lift_113 : decode cX4_lift 113 = .ok (.goto 13, 3) := by decide +kernel
theorem dX4_lift_116 : decode cX4_lift 116 = .ok (.iload 6, 2) := by decide +kernel
theorem dX4_lift_118 : decode cX4_lift 118 = .ok (.ifCond .eq 7, 3) := by decide +kernel
theorem dX4_lift_121 : decode cX4_lift 121 = .ok (.iconst 3, 1) := by decide +kernel
theorem dX4_lift_122 : decode cX4_lift 122 = .ok (.goto 4, 3) := by decide +kernel
theorem dX4_lift_125 : decode cX4_lift 125 = .ok (.iconst 0, 1) := by decide +kernel
theorem dX4_lift_126 : decode cX4_lift 126 = .ok (.invokevirtual 63, 3) := by decide +kernel
theorem dX4_lift_129 : decode cX4_lift 129 = .ok (.ifCond .eq 5, 3) := by decide +kernel
theorem dX4_lift_132 : decode cX4_lift 132 = .ok (.iconst (-1), 1) := by decide +kernel
theorem dX4_lift_133 : decode cX4_lift 133 = .ok (.ireturn, 1) := by decide +kernel
theorem dX4_lift_134 : decode cX4_lift 134 = .ok (.aload_n 0, 1) := by decide +kernel
theorem dX4_lift_135 : decode cX4_lift 135 = .ok (.getfield 28, 3) := by decide +kernel
theorem dX4_lift_138 : decode cX4_lift 138 = .ok (.aload_n 0, 1) := by decide +kernel
theorem dX4_lift_139 : decode cX4_lift 139 = .ok (.getfield 88, 3) := by decide +kernel
theorem dX4_lift_142 : decode cX4_lift 142 = .ok (.iload_n 1, 1) := by decide +kernel
theorem dX4_lift_143 : decode cX4_lift 143 = .ok (.iastore, 1) := by decide +kernel
theorem dX4_lift_144 : decode cX4_lift 144 = .ok (.aload_n 0, 1) := by decide +kernel
theorem dX4_lift_145 : decode cX4_lift 145 = .ok (.getfield 31, 3) := by decide +kernel
theorem dX4_lift_148 : decode cX4_lift 148 = .ok (.aload_n 0, 1) := by decide +kernel
theorem dX4_lift_149 : decode cX4_lift 149 = .ok (.getfield 88, 3) := by decide +kernel
theorem dX4_lift_152 : decode cX4_lift 152 = .ok (.iload_n 2, 1) := by decide +kernel
theorem dX4_lift_153 : decode cX4_lift 153 = .ok (.iastore, 1) := by decide +kernel
theorem dX4_lift_154 : decode cX4_lift 154 = .ok (.aload_n 0, 1) := by decide +kernel
theorem dX4_lift_155 : decode cX4_lift 155 = .ok (.getfield 34, 3) := by decide +kernel
theorem dX4_lift_158 : decode cX4_lift 158 = .ok (.aload_n 0, 1) := by decide +kernel
theorem dX4_lift_159 : decode cX4_lift 159 = .ok (.getfield 88, 3) := by decide +kernel
theorem dX4_lift_162 : decode cX4_lift 162 = .ok (.iload_n 3, 1) := by decide +kernel
theorem dX4_lift_163 : decode cX4_lift 163 = .ok (.iastore, 1) := by decide +kernel
theorem dX4_lift_164 : decode cX4_lift 164 = .ok (.aload_n 0, 1) := by decide +kernel
theorem dX4_lift_165 : decode cX4_lift 165 = .ok (.getfield 37, 3) := by decide +kernel
theorem dX4_lift_168 : decode cX4_lift 168 = .ok (.aload_n 0, 1) := by decide +kernel
theorem dX4_lift_169 : decode cX4_lift 169 = .ok (.getfield 88, 3) := by decide +kernel
theorem dX4_lift_172 : decode cX4_lift 172 = .ok (.iload 4, 2) := by decide +kernel
theorem dX4_lift_174 : decode cX4_lift 174 = .ok (.iastore, 1) := by decide +kernel
theorem dX4_lift_175 : decode cX4_lift 175 = .ok (.aload_n 0, 1) := by decide +kernel
theorem dX4_lift_176 : decode cX4_lift 176 = .ok (.dup, 1) := by decide +kernel
theorem dX4_lift_177 : decode cX4_lift 177 = .ok (.getfield 88, 3) := by decide +kernel
theorem dX4_lift_180 : decode cX4_lift 180 = .ok (.iconst 1, 1) := by decide +kernel
theorem dX4_lift_181 : decode cX4_lift 181 = .ok (.iadd, 1) := by decide +kernel
theorem dX4_lift_182 : decode cX4_lift 182 = .ok (.putfield 88, 3) := by decide +kernel
theorem dX4_lift_185 : decode cX4_lift 185 = .ok (.aload_n 0, 1) := by decide +kernel
theorem dX4_lift_186 : decode cX4_lift 186 = .ok (.getfield 88, 3) := by decide +kernel
theorem dX4_lift_189 : decode cX4_lift 189 = .ok (.iconst 1, 1) := by decide +kernel
theorem dX4_lift_190 : decode cX4_lift 190 = .ok (.isub, 1) := by decide +kernel
theorem dX4_lift_191 : decode cX4_lift 191 = .ok (.ireturn, 1) := by decide +kernel
theorem dX4_ofLift_0 : decode cX4_ofLift 0 = .ok (.aload_n 0, 1) := by decide +kernel
theorem dX4_ofLift_1 : decode cX4_ofLift 1 = .ok (.aload_n 0, 1) := by decide +kernel
theorem dX4_ofLift_2 : decode cX4_ofLift 2 = .ok (.iload_n 1, 1) := by decide +kernel
theorem dX4_ofLift_3 : decode cX4_ofLift 3 = .ok (.iconst 0, 1) := by decide +kernel
theorem dX4_ofLift_4 : decode cX4_ofLift 4 = .ok (.aload_n 0, 1) := by decide +kernel
theorem dX4_ofLift_5 : decode cX4_ofLift 5 = .ok (.getfield 88, 3) := by decide +kernel
theorem dX4_ofLift_8 : decode cX4_ofLift 8 = .ok (.iconst 1, 1) := by decide +kernel
theorem dX4_ofLift_9 : decode cX4_ofLift 9 = .ok (.isub, 1) := by decide +kernel
theorem dX4_ofLift_10 : decode cX4_ofLift 10 = .ok (.invokevirtual 59, 3) := by decide +kernel
theorem dX4_ofLift_13 : decode cX4_ofLift 13 = .ok (.ifCond .ne 7, 3) := by decide +kernel
theorem dX4_ofLift_16 : decode cX4_ofLift 16 = .ok (.iconst 1, 1) := by decide +kernel
theorem dX4_ofLift_17 : decode cX4_ofLift 17 = .ok (.goto 18, 3) := by decide +kernel
theorem dX4_ofLift_20 : decode cX4_ofLift 20 = .ok (.aload_n 0, 1) := by decide +kernel
theorem dX4_ofLift_21 : decode cX4_ofLift 21 = .ok (.iload_n 2, 1) := by decide +kernel
theorem dX4_ofLift_22 : decode cX4_ofLift 22 = .ok (.iconst 0, 1) := by decide +kernel
theorem dX4_ofLift_23 : decode cX4_ofLift 23 = .ok (.iconst 4, 1) := by decide +kernel
theorem dX4_ofLift_24 : decode cX4_ofLift 24 = .ok (.invokevirtual 59, 3) := by decide +kernel
theorem dX4_ofLift_27 : decode cX4_ofLift 27 = .ok (.ifCond .eq 7, 3) := by decide +kernel
theorem dX4_ofLift_30 : decode cX4_ofLift 30 = .ok (.iconst 0, 1) := by decide +kernel
theorem dX4_ofLift_31 : decode cX4_ofLift 31 = .ok (.goto 4, 3) := by decide +kernel
theorem dX4_ofLift_34 : decode cX4_ofLift 34 = .ok (.iconst 2, 1) := by decide +kernel
theorem dX4_ofLift_35 : decode cX4_ofLift 35 = .ok (.invokevirtual 63, 3) := by decide +kernel
theorem dX4_ofLift_38 : decode cX4_ofLift 38 = .ok (.ifCond .eq 5, 3) := by decide +kernel
theorem dX4_ofLift_41 : decode cX4_ofLift 41 = .ok (.iconst (-1), 1) := by decide +kernel
theorem dX4_ofLift_42 : decode cX4_ofLift 42 = .ok (.ireturn, 1) := by decide +kernel
theorem dX4_ofLift_43 : decode cX4_ofLift 43 = .ok (.iload_n 2, 1) := by decide +kernel
theorem dX4_ofLift_44 : decode cX4_ofLift 44 = .ok (.tableswitch 60 0 3 #[32, 39, 46, 53], 32) := by decide +kernel
theorem dX4_ofLift_76 : decode cX4_ofLift 76 = .ok (.aload_n 0, 1) := by decide +kernel
theorem dX4_ofLift_77 : decode cX4_ofLift 77 = .ok (.getfield 28, 3) := by decide +kernel
theorem dX4_ofLift_80 : decode cX4_ofLift 80 = .ok (.iload_n 1, 1) := by decide +kernel
theorem dX4_ofLift_81 : decode cX4_ofLift 81 = .ok (.iaload, 1) := by decide +kernel
theorem dX4_ofLift_82 : decode cX4_ofLift 82 = .ok (.ireturn, 1) := by decide +kernel
theorem dX4_ofLift_83 : decode cX4_ofLift 83 = .ok (.aload_n 0, 1) := by decide +kernel
theorem dX4_ofLift_84 : decode cX4_ofLift 84 = .ok (.getfield 31, 3) := by decide +kernel
theorem dX4_ofLift_87 : decode cX4_ofLift 87 = .ok (.iload_n 1, 1) := by decide +kernel
theorem dX4_ofLift_88 : decode cX4_ofLift 88 = .ok (.iaload, 1) := by decide +kernel
theorem dX4_ofLift_89 : decode cX4_ofLift 89 = .ok (.ireturn, 1) := by decide +kernel
theorem dX4_ofLift_90 : decode cX4_ofLift 90 = .ok (.aload_n 0, 1) := by decide +kernel
theorem dX4_ofLift_91 : decode cX4_ofLift 91 = .ok (.getfield 34, 3) := by decide +kernel
theorem dX4_ofLift_94 : decode cX4_ofLift 94 = .ok (.iload_n 1, 1) := by decide +kernel
theorem dX4_ofLift_95 : decode cX4_ofLift 95 = .ok (.iaload, 1) := by decide +kernel
theorem dX4_ofLift_96 : decode cX4_ofLift 96 = .ok (.ireturn, 1) := by decide +kernel
theorem dX4_ofLift_97 : decode cX4_ofLift 97 = .ok (.aload_n 0, 1) := by decide +kernel
theorem dX4_ofLift_98 : decode cX4_ofLift 98 = .ok (.getfield 37, 3) := by decide +kernel
theorem dX4_ofLift_101 : decode cX4_ofLift 101 = .ok (.iload_n 1, 1) := by decide +kernel
theorem dX4_ofLift_102 : decode cX4_ofLift 102 = .ok (.iaload, 1) := by decide +kernel
theorem dX4_ofLift_103 : decode cX4_ofLift 103 = .ok (.ireturn, 1) := by decide +kernel
theorem dX4_ofLift_104 : decode cX4_ofLift 104 = .ok (.aload_n 0, 1) := by decide +kernel
theorem dX4_ofLift_105 : decode cX4_ofLift 105 = .ok (.getfield 40, 3) := by decide +kernel
theorem dX4_ofLift_108 : decode cX4_ofLift 108 = .ok (.iload_n 1, 1) := by decide +kernel
theorem dX4_ofLift_109 : decode cX4_ofLift 109 = .ok (.iaload, 1) := by decide +kernel
theorem dX4_ofLift_110 : decode cX4_ofLift 110 = .ok (.iconst 1, 1) := by decide +kernel
theorem dX4_ofLift_111 : decode cX4_ofLift 111 = .ok (.if_icmp .ne 7, 3) := by decide +kernel
theorem dX4_ofLift_114 : decode cX4_ofLift 114 = .ok (.iconst 2, 1) := by decide +kernel
theorem dX4_ofLift_115 : decode cX4_ofLift 115 = .ok (.goto 16, 3) := by decide +kernel
theorem dX4_ofLift_118 : decode cX4_ofLift 118 = .ok (.aload_n 0, 1) := by decide +kernel
theorem dX4_ofLift_119 : decode cX4_ofLift 119 = .ok (.iload_n 1, 1) := by decide +kernel
theorem dX4_ofLift_120 : decode cX4_ofLift 120 = .ok (.invokevirtual 101, 3) := by decide +kernel
theorem dX4_ofLift_123 : decode cX4_ofLift 123 = .ok (.ifCond .eq 7, 3) := by decide +kernel
theorem dX4_ofLift_126 : decode cX4_ofLift 126 = .ok (.iconst 1, 1) := by decide +kernel
theorem dX4_ofLift_127 : decode cX4_ofLift 127 = .ok (.goto 4, 3) := by decide +kernel
theorem dX4_ofLift_130 : decode cX4_ofLift 130 = .ok (.iconst 0, 1) := by decide +kernel
theorem dX4_ofLift_131 : decode cX4_ofLift 131 = .ok (.ireturn, 1) := by decide +kernel
theorem dX4_lasts_0 : decode cX4_lasts 0 = .ok (.sipush 500, 3) := by decide +kernel
theorem dX4_lasts_3 : decode cX4_lasts 3 = .ok (.istore_n 2, 1) := by decide +kernel
theorem dX4_lasts_4 : decode cX4_lasts 4 = .ok (.iconst 0, 1) := by decide +kernel
theorem dX4_lasts_5 : decode cX4_lasts 5 = .ok (.istore_n 3, 1) := by decide +kernel
theorem dX4_lasts_6 : decode cX4_lasts 6 = .ok (.iload_n 3, 1) := by decide +kernel
theorem dX4_lasts_7 : decode cX4_lasts 7 = .ok (.iload_n 1, 1) := by decide +kernel
theorem dX4_lasts_8 : decode cX4_lasts 8 = .ok (.if_icmp .gt 29, 3) := by decide +kernel
theorem dX4_lasts_11 : decode cX4_lasts 11 = .ok (.aload_n 0, 1) := by decide +kernel
theorem dX4_lasts_12 : decode cX4_lasts 12 = .ok (.getfield 43, 3) := by decide +kernel
theorem dX4_lasts_15 : decode cX4_lasts 15 = .ok (.iload_n 3, 1) := by decide +kernel
theorem dX4_lasts_16 : decode cX4_lasts 16 = .ok (.iaload, 1) := by decide +kernel
theorem dX4_lasts_17 : decode cX4_lasts 17 = .ok (.ifCond .le 12, 3) := by decide +kernel
theorem dX4_lasts_20 : decode cX4_lasts 20 = .ok (.aload_n 0, 1) := by decide +kernel
theorem dX4_lasts_21 : decode cX4_lasts 21 = .ok (.getfield 43, 3) := by decide +kernel
theorem dX4_lasts_24 : decode cX4_lasts 24 = .ok (.iload_n 3, 1) := by decide +kernel
theorem dX4_lasts_25 : decode cX4_lasts 25 = .ok (.iaload, 1) := by decide +kernel
theorem dX4_lasts_26 : decode cX4_lasts 26 = .ok (.goto 4, 3) := by decide +kernel
theorem dX4_lasts_29 : decode cX4_lasts 29 = .ok (.iload_n 2, 1) := by decide +kernel
theorem dX4_lasts_30 : decode cX4_lasts 30 = .ok (.istore_n 2, 1) := by decide +kernel
theorem dX4_lasts_31 : decode cX4_lasts 31 = .ok (.iinc 3 1, 3) := by decide +kernel
theorem dX4_lasts_34 : decode cX4_lasts 34 = .ok (.goto (-28), 3) := by decide +kernel
theorem dX4_lasts_37 : decode cX4_lasts 37 = .ok (.iload_n 2, 1) := by decide +kernel
theorem dX4_lasts_38 : decode cX4_lasts 38 = .ok (.ireturn, 1) := by decide +kernel
theorem dX4_tempo_0 : decode cX4_tempo 0 = .ok (.aload_n 0, 1) := by decide +kernel
theorem dX4_tempo_1 : decode cX4_tempo 1 = .ok (.aload_n 0, 1) := by decide +kernel
theorem dX4_tempo_2 : decode cX4_tempo 2 = .ok (.iload_n 1, 1) := by decide +kernel
theorem dX4_tempo_3 : decode cX4_tempo 3 = .ok (.invokevirtual 70, 3) := by decide +kernel
theorem dX4_tempo_6 : decode cX4_tempo 6 = .ok (.ifCond .ne 7, 3) := by decide +kernel
theorem dX4_tempo_9 : decode cX4_tempo 9 = .ok (.iconst 1, 1) := by decide +kernel
theorem dX4_tempo_10 : decode cX4_tempo 10 = .ok (.goto 19, 3) := by decide +kernel
theorem dX4_tempo_13 : decode cX4_tempo 13 = .ok (.aload_n 0, 1) := by decide +kernel
theorem dX4_tempo_14 : decode cX4_tempo 14 = .ok (.iload_n 2, 1) := by decide +kernel
theorem dX4_tempo_15 : decode cX4_tempo 15 = .ok (.iconst 1, 1) := by decide +kernel
theorem dX4_tempo_16 : decode cX4_tempo 16 = .ok (.ldc 104, 2) := by decide +kernel
theorem dX4_tempo_18 : decode cX4_tempo 18 = .ok (.invokevirtual 59, 3) := by decide +kernel
theorem dX4_tempo_21 : decode cX4_tempo 21 = .ok (.ifCond .eq 7, 3) := by decide +kernel
theorem dX4_tempo_24 : decode cX4_tempo 24 = .ok (.iconst 0, 1) := by decide +kernel
theorem dX4_tempo_25 : decode cX4_tempo 25 = .ok (.goto 4, 3) := by decide +kernel
theorem dX4_tempo_28 : decode cX4_tempo 28 = .ok (.iconst 2, 1) := by decide +kernel
theorem dX4_tempo_29 : decode cX4_tempo 29 = .ok (.invokevirtual 63, 3) := by decide +kernel
theorem dX4_tempo_32 : decode cX4_tempo 32 = .ok (.ifCond .eq 5, 3) := by decide +kernel
theorem dX4_tempo_35 : decode cX4_tempo 35 = .ok (.iconst (-1), 1) := by decide +kernel
theorem dX4_tempo_36 : decode cX4_tempo 36 = .ok (.ireturn, 1) := by decide +kernel
theorem dX4_tempo_37 : decode cX4_tempo 37 = .ok (.aload_n 0, 1) := by decide +kernel
theorem dX4_tempo_38 : decode cX4_tempo 38 = .ok (.iload_n 1, 1) := by decide +kernel
theorem dX4_tempo_39 : decode cX4_tempo 39 = .ok (.invokevirtual 105, 3) := by decide +kernel
theorem dX4_tempo_42 : decode cX4_tempo 42 = .ok (.istore_n 3, 1) := by decide +kernel
theorem dX4_tempo_43 : decode cX4_tempo 43 = .ok (.aload_n 0, 1) := by decide +kernel
theorem dX4_tempo_44 : decode cX4_tempo 44 = .ok (.getfield 43, 3) := by decide +kernel
theorem dX4_tempo_47 : decode cX4_tempo 47 = .ok (.iload_n 1, 1) := by decide +kernel
theorem dX4_tempo_48 : decode cX4_tempo 48 = .ok (.iload_n 2, 1) := by decide +kernel
theorem dX4_tempo_49 : decode cX4_tempo 49 = .ok (.iastore, 1) := by decide +kernel
theorem dX4_tempo_50 : decode cX4_tempo 50 = .ok (.iload_n 3, 1) := by decide +kernel
theorem dX4_tempo_51 : decode cX4_tempo 51 = .ok (.ireturn, 1) := by decide +kernel
theorem dX4_begins_0 : decode cX4_begins 0 = .ok (.lconst 0, 1) := by decide +kernel
theorem dX4_begins_1 : decode cX4_begins 1 = .ok (.lstore_n 2, 1) := by decide +kernel
theorem dX4_begins_2 : decode cX4_begins 2 = .ok (.iconst 0, 1) := by decide +kernel
theorem dX4_begins_3 : decode cX4_begins 3 = .ok (.istore 4, 2) := by decide +kernel
theorem dX4_begins_5 : decode cX4_begins 5 = .ok (.iload 4, 2) := by decide +kernel
theorem dX4_begins_7 : decode cX4_begins 7 = .ok (.iload_n 1, 1) := by decide +kernel
theorem dX4_begins_8 : decode cX4_begins 8 = .ok (.if_icmp .ge 26, 3) := by decide +kernel
theorem dX4_begins_11 : decode cX4_begins 11 = .ok (.iload 4, 2) := by decide +kernel
theorem dX4_begins_13 : decode cX4_begins 13 = .ok (.bipush 64, 2) := by decide +kernel
theorem dX4_begins_15 : decode cX4_begins 15 = .ok (.if_icmp .ge 19, 3) := by decide +kernel
theorem dX4_begins_18 : decode cX4_begins 18 = .ok (.lload_n 2, 1) := by decide +kernel
theorem dX4_begins_19 : decode cX4_begins 19 = .ok (.aload_n 0, 1) := by decide +kernel
theorem dX4_begins_20 : decode cX4_begins 20 = .ok (.iload 4, 2) := by decide +kernel
theorem dX4_begins_22 : decode cX4_begins 22 = .ok (.invokevirtual 105, 3) := by decide +kernel
theorem dX4_begins_25 : decode cX4_begins 25 = .ok (.i2l, 1) := by decide +kernel
theorem dX4_begins_26 : decode cX4_begins 26 = .ok (.ladd, 1) := by decide +kernel
theorem dX4_begins_27 : decode cX4_begins 27 = .ok (.lstore_n 2, 1) := by decide +kernel
theorem dX4_begins_28 : decode cX4_begins 28 = .ok (.iinc 4 1, 3) := by decide +kernel
theorem dX4_begins_31 : decode cX4_begins 31 = .ok (.goto (-26), 3) := by decide +kernel
theorem dX4_begins_34 : decode cX4_begins 34 = .ok (.aload_n 0, 1) := by decide +kernel
theorem dX4_begins_35 : decode cX4_begins 35 = .ok (.aload_n 0, 1) := by decide +kernel
theorem dX4_begins_36 : decode cX4_begins 36 = .ok (.iload_n 1, 1) := by decide +kernel
theorem dX4_begins_37 : decode cX4_begins 37 = .ok (.invokevirtual 70, 3) := by decide +kernel
theorem dX4_begins_40 : decode cX4_begins 40 = .ok (.ifCond .ne 7, 3) := by decide +kernel
theorem dX4_begins_43 : decode cX4_begins 43 = .ok (.iconst 1, 1) := by decide +kernel
theorem dX4_begins_44 : decode cX4_begins 44 = .ok (.goto 16, 3) := by decide +kernel
theorem dX4_begins_47 : decode cX4_begins 47 = .ok (.lload_n 2, 1) := by decide +kernel
theorem dX4_begins_48 : decode cX4_begins 48 = .ok (.ldc2_w 108, 3) := by decide +kernel
theorem dX4_begins_51 : decode cX4_begins 51 = .ok (.lcmp, 1) := by decide +kernel
theorem dX4_begins_52 : decode cX4_begins 52 = .ok (.ifCond .le 7, 3) := by decide +kernel
theorem dX4_begins_55 : decode cX4_begins 55 = .ok (.iconst 2, 1) := by decide +kernel
theorem dX4_begins_56 : decode cX4_begins 56 = .ok (.goto 4, 3) := by decide +kernel
theorem dX4_begins_59 : decode cX4_begins 59 = .ok (.iconst 0, 1) := by decide +kernel
theorem dX4_begins_60 : decode cX4_begins 60 = .ok (.invokevirtual 63, 3) := by decide +kernel
theorem dX4_begins_63 : decode cX4_begins 63 = .ok (.ifCond .eq 7, 3) := by decide +kernel
theorem dX4_begins_66 : decode cX4_begins 66 = .ok (.iconst (-1), 1) := by decide +kernel
theorem dX4_begins_67 : decode cX4_begins 67 = .ok (.goto 5, 3) := by decide +kernel
theorem dX4_begins_70 : decode cX4_begins 70 = .ok (.lload_n 2, 1) := by decide +kernel
theorem dX4_begins_71 : decode cX4_begins 71 = .ok (.l2i, 1) := by decide +kernel
theorem dX4_begins_72 : decode cX4_begins 72 = .ok (.ireturn, 1) := by decide +kernel
theorem dX4_flat_0 : decode cX4_flat 0 = .ok (.iload_n 1, 1) := by decide +kernel
theorem dX4_flat_1 : decode cX4_flat 1 = .ok (.ifCond .ge 8, 3) := by decide +kernel
theorem dX4_flat_4 : decode cX4_flat 4 = .ok (.iload_n 1, 1) := by decide +kernel
theorem dX4_flat_5 : decode cX4_flat 5 = .ok (.ineg, 1) := by decide +kernel
theorem dX4_flat_6 : decode cX4_flat 6 = .ok (.goto 4, 3) := by decide +kernel
theorem dX4_flat_9 : decode cX4_flat 9 = .ok (.iload_n 1, 1) := by decide +kernel
theorem dX4_flat_10 : decode cX4_flat 10 = .ok (.ireturn, 1) := by decide +kernel
theorem dX4_cost_0 : decode cX4_cost 0 = .ok (.iconst 0, 1) := by decide +kernel
theorem dX4_cost_1 : decode cX4_cost 1 = .ok (.istore 4, 2) := by decide +kernel
theorem dX4_cost_3 : decode cX4_cost 3 = .ok (.iload_n 2, 1) := by decide +kernel
theorem dX4_cost_4 : decode cX4_cost 4 = .ok (.istore 5, 2) := by decide +kernel
theorem dX4_cost_6 : decode cX4_cost 6 = .ok (.iload 5, 2) := by decide +kernel
theorem dX4_cost_8 : decode cX4_cost 8 = .ok (.iload_n 3, 1) := by decide +kernel
theorem dX4_cost_9 : decode cX4_cost 9 = .ok (.if_icmp .gt 57, 3) := by decide +kernel
theorem dX4_cost_12 : decode cX4_cost 12 = .ok (.iload 4, 2) := by decide +kernel
theorem dX4_cost_14 : decode cX4_cost 14 = .ok (.aload_n 0, 1) := by decide +kernel
theorem dX4_cost_15 : decode cX4_cost 15 = .ok (.aload_n 0, 1) := by decide +kernel
theorem dX4_cost_16 : decode cX4_cost 16 = .ok (.getfield 22, 3) := by decide +kernel
theorem dX4_cost_19 : decode cX4_cost 19 = .ok (.bipush 64, 2) := by decide +kernel
theorem dX4_cost_21 : decode cX4_cost 21 = .ok (.iload_n 1, 1) := by decide +kernel
theorem dX4_cost_22 : decode cX4_cost 22 = .ok (.imul, 1) := by decide +kernel
theorem dX4_cost_23 : decode cX4_cost 23 = .ok (.iload 5, 2) := by decide +kernel
theorem dX4_cost_25 : decode cX4_cost 25 = .ok (.iadd, 1) := by decide +kernel
theorem dX4_cost_26 : decode cX4_cost 26 = .ok (.iaload, 1) := by decide +kernel
theorem dX4_cost_27 : decode cX4_cost 27 = .ok (.invokevirtual 110, 3) := by decide +kernel
theorem dX4_cost_30 : decode cX4_cost 30 = .ok (.aload_n 0, 1) := by decide +kernel
theorem dX4_cost_31 : decode cX4_cost 31 = .ok (.aload_n 0, 1) := by decide +kernel
theorem dX4_cost_32 : decode cX4_cost 32 = .ok (.getfield 25, 3) := by decide +kernel
theorem dX4_cost_35 : decode cX4_cost 35 = .ok (.bipush 64, 2) := by decide +kernel
theorem dX4_cost_37 : decode cX4_cost 37 = .ok (.iload_n 1, 1) := by decide +kernel
theorem dX4_cost_38 : decode cX4_cost 38 = .ok (.imul, 1) := by decide +kernel
theorem dX4_cost_39 : decode cX4_cost 39 = .ok (.iload 5, 2) := by decide +kernel
theorem dX4_cost_41 : decode cX4_cost 41 = .ok (.iadd, 1) := by decide +kernel
theorem dX4_cost_42 : decode cX4_cost 42 = .ok (.iaload, 1) := by decide +kernel
theorem dX4_cost_43 : decode cX4_cost 43 = .ok (.invokevirtual 110, 3) := by decide +kernel
theorem dX4_cost_46 : decode cX4_cost 46 = .ok (.iadd, 1) := by decide +kernel
theorem dX4_cost_47 : decode cX4_cost 47 = .ok (.iconst 5, 1) := by decide +kernel
theorem dX4_cost_48 : decode cX4_cost 48 = .ok (.aload_n 0, 1) := by decide +kernel
theorem dX4_cost_49 : decode cX4_cost 49 = .ok (.iload_n 1, 1) := by decide +kernel
theorem dX4_cost_50 : decode cX4_cost 50 = .ok (.iload 5, 2) := by decide +kernel
theorem dX4_cost_52 : decode cX4_cost 52 = .ok (.invokevirtual 98, 3) := by decide +kernel
theorem dX4_cost_55 : decode cX4_cost 55 = .ok (.imul, 1) := by decide +kernel
theorem dX4_cost_56 : decode cX4_cost 56 = .ok (.iadd, 1) := by decide +kernel
theorem dX4_cost_57 : decode cX4_cost 57 = .ok (.iadd, 1) := by decide +kernel
theorem dX4_cost_58 : decode cX4_cost 58 = .ok (.istore 4, 2) := by decide +kernel
theorem dX4_cost_60 : decode cX4_cost 60 = .ok (.iinc 5 1, 3) := by decide +kernel
theorem dX4_cost_63 : decode cX4_cost 63 = .ok (.goto (-57), 3) := by decide +kernel
theorem dX4_cost_66 : decode cX4_cost 66 = .ok (.iload 4, 2) := by decide +kernel
theorem dX4_cost_68 : decode cX4_cost 68 = .ok (.ireturn, 1) := by decide +kernel
theorem dX4_isBusy_0 : decode cX4_isBusy 0 = .ok (.iconst 0, 1) := by decide +kernel
theorem dX4_isBusy_1 : decode cX4_isBusy 1 = .ok (.istore_n 3, 1) := by decide +kernel
theorem dX4_isBusy_2 : decode cX4_isBusy 2 = .ok (.iconst 0, 1) := by decide +kernel
theorem dX4_isBusy_3 : decode cX4_isBusy 3 = .ok (.istore 4, 2) := by decide +kernel
theorem dX4_isBusy_5 : decode cX4_isBusy 5 = .ok (.iload 4, 2) := by decide +kernel
theorem dX4_isBusy_7 : decode cX4_isBusy 7 = .ok (.iconst 3, 1) := by decide +kernel
theorem dX4_isBusy_8 : decode cX4_isBusy 8 = .ok (.if_icmp .ge 49, 3) := by decide +kernel
theorem dX4_isBusy_11 : decode cX4_isBusy 11 = .ok (.aload_n 0, 1) := by decide +kernel
theorem dX4_isBusy_12 : decode cX4_isBusy 12 = .ok (.getfield 46, 3) := by decide +kernel
theorem dX4_isBusy_15 : decode cX4_isBusy 15 = .ok (.bipush 13, 2) := by decide +kernel
theorem dX4_isBusy_17 : decode cX4_isBusy 17 = .ok (.iload 4, 2) := by decide +kernel
theorem dX4_isBusy_19 : decode cX4_isBusy 19 = .ok (.imul, 1) := by decide +kernel
theorem dX4_isBusy_20 : decode cX4_isBusy 20 = .ok (.iload_n 2, 1) := by decide +kernel
theorem dX4_isBusy_21 : decode cX4_isBusy 21 = .ok (.iadd, 1) := by decide +kernel
theorem dX4_isBusy_22 : decode cX4_isBusy 22 = .ok (.bipush 8, 2) := by decide +kernel
theorem dX4_isBusy_24 : decode cX4_isBusy 24 = .ok (.isub, 1) := by decide +kernel
theorem dX4_isBusy_25 : decode cX4_isBusy 25 = .ok (.iaload, 1) := by decide +kernel
theorem dX4_isBusy_26 : decode cX4_isBusy 26 = .ok (.istore 5, 2) := by decide +kernel
theorem dX4_isBusy_28 : decode cX4_isBusy 28 = .ok (.iload_n 3, 1) := by decide +kernel
theorem dX4_isBusy_29 : decode cX4_isBusy 29 = .ok (.iload 5, 2) := by decide +kernel
theorem dX4_isBusy_31 : decode cX4_isBusy 31 = .ok (.ifCond .lt 17, 3) := by decide +kernel
theorem dX4_isBusy_34 : decode cX4_isBusy 34 = .ok (.iload 5, 2) := by decide +kernel
theorem dX4_isBusy_36 : decode cX4_isBusy 36 = .ok (.iload_n 1, 1) := by decide +kernel
theorem dX4_isBusy_37 : decode cX4_isBusy 37 = .ok (.ishr, 1) := by decide +kernel
theorem dX4_isBusy_38 : decode cX4_isBusy 38 = .ok (.iconst 1, 1) := by decide +kernel
theorem dX4_isBusy_39 : decode cX4_isBusy 39 = .ok (.iand, 1) := by decide +kernel
theorem dX4_isBusy_40 : decode cX4_isBusy 40 = .ok (.iconst 1, 1) := by decide +kernel
theorem dX4_isBusy_41 : decode cX4_isBusy 41 = .ok (.if_icmp .ne 7, 3) := by decide +kernel
theorem dX4_isBusy_44 : decode cX4_isBusy 44 = .ok (.iconst 1, 1) := by decide +kernel
theorem dX4_isBusy_45 : decode cX4_isBusy 45 = .ok (.goto 4, 3) := by decide +kernel
theorem dX4_isBusy_48 : decode cX4_isBusy 48 = .ok (.iconst 0, 1) := by decide +kernel
theorem dX4_isBusy_49 : decode cX4_isBusy 49 = .ok (.ior, 1) := by decide +kernel
theorem dX4_isBusy_50 : decode cX4_isBusy 50 = .ok (.istore_n 3, 1) := by decide +kernel
theorem dX4_isBusy_51 : decode cX4_isBusy 51 = .ok (.iinc 4 1, 3) := by decide +kernel
theorem dX4_isBusy_54 : decode cX4_isBusy 54 = .ok (.goto (-49), 3) := by decide +kernel
theorem dX4_isBusy_57 : decode cX4_isBusy 57 = .ok (.iload_n 3, 1) := by decide +kernel
theorem dX4_isBusy_58 : decode cX4_isBusy 58 = .ok (.ireturn, 1) := by decide +kernel
theorem dX4_rehearse_0 : decode cX4_rehearse 0 = .ok (.aload_n 0, 1) := by decide +kernel
theorem dX4_rehearse_1 : decode cX4_rehearse 1 = .ok (.iload_n 1, 1) := by decide +kernel
theorem dX4_rehearse_2 : decode cX4_rehearse 2 = .ok (.iconst 0, 1) := by decide +kernel
theorem dX4_rehearse_3 : decode cX4_rehearse 3 = .ok (.iconst 2, 1) := by decide +kernel
theorem dX4_rehearse_4 : decode cX4_rehearse 4 = .ok (.invokevirtual 59, 3) := by decide +kernel
theorem dX4_rehearse_7 : decode cX4_rehearse 7 = .ok (.ifCond .eq 36, 3) := by decide +kernel
theorem dX4_rehearse_10 : decode cX4_rehearse 10 = .ok (.aload_n 0, 1) := by decide +kernel
theorem dX4_rehearse_11 : decode cX4_rehearse 11 = .ok (.iload_n 2, 1) := by decide +kernel
theorem dX4_rehearse_12 : decode cX4_rehearse 12 = .ok (.bipush 8, 2) := by decide +kernel
theorem dX4_rehearse_14 : decode cX4_rehearse 14 = .ok (.bipush 20, 2) := by decide +kernel
theorem dX4_rehearse_16 : decode cX4_rehearse 16 = .ok (.invokevirtual 59, 3) := by decide +kernel
theorem dX4_rehearse_19 : decode cX4_rehearse 19 = .ok (.ifCond .eq 24, 3) := by decide +kernel
theorem dX4_rehearse_22 : decode cX4_rehearse 22 = .ok (.aload_n 0, 1) := by decide +kernel
theorem dX4_rehearse_23 : decode cX4_rehearse 23 = .ok (.iload_n 3, 1) := by decide +kernel
theorem dX4_rehearse_24 : decode cX4_rehearse 24 = .ok (.invokevirtual 70, 3) := by decide +kernel
theorem dX4_rehearse_27 : decode cX4_rehearse 27 = .ok (.ifCond .eq 16, 3) := by decide +kernel
theorem dX4_rehearse_30 : decode cX4_rehearse 30 = .ok (.aload_n 0, 1) := by decide +kernel
theorem dX4_rehearse_31 : decode cX4_rehearse 31 = .ok (.iload 4, 2) := by decide +kernel
theorem dX4_rehearse_33 : decode cX4_rehearse 33 = .ok (.invokevirtual 70, 3) := by decide +kernel
theorem dX4_rehearse_36 : decode cX4_rehearse 36 = .ok (.ifCond .eq 7, 3) := by decide +kernel
theorem dX4_rehearse_39 : decode cX4_rehearse 39 = .ok (.iconst 1, 1) := by decide +kernel
theorem dX4_rehearse_40 : decode cX4_rehearse 40 = .ok (.goto 4, 3) := by decide +kernel
theorem dX4_rehearse_43 : decode cX4_rehearse 43 = .ok (.iconst 0, 1) := by decide +kernel
theorem dX4_rehearse_44 : decode cX4_rehearse 44 = .ok (.istore 5, 2) := by decide +kernel
theorem dX4_rehearse_46 : decode cX4_rehearse 46 = .ok (.iload 5, 2) := by decide +kernel
theorem dX4_rehearse_48 : decode cX4_rehearse 48 = .ok (.ifCond .eq 13, 3) := by decide +kernel
theorem dX4_rehearse_51 : decode cX4_rehearse 51 = .ok (.iload 4, 2) := by decide +kernel
theorem dX4_rehearse_53 : decode cX4_rehearse 53 = .ok (.iload_n 3, 1) := by decide +kernel
theorem dX4_rehearse_54 : decode cX4_rehearse 54 = .ok (.if_icmp .lt 7, 3) := by decide +kernel
theorem dX4_rehearse_57 : decode cX4_rehearse 57 = .ok (.iconst 1, 1) := by decide +kernel
theorem dX4_rehearse_58 : decode cX4_rehearse 58 = .ok (.goto 4, 3) := by decide +kernel
theorem dX4_rehearse_61 : decode cX4_rehearse 61 = .ok (.iconst 0, 1) := by decide +kernel
theorem dX4_rehearse_62 : decode cX4_rehearse 62 = .ok (.istore 6, 2) := by decide +kernel
theorem dX4_rehearse_64 : decode cX4_rehearse 64 = .ok (.iconst 0, 1) := by decide +kernel
theorem dX4_rehearse_65 : decode cX4_rehearse 65 = .ok (.istore 7, 2) := by decide +kernel
theorem dX4_rehearse_67 : decode cX4_rehearse 67 = .ok (.iload 6, 2) := by decide +kernel
theorem dX4_rehearse_69 : decode cX4_rehearse 69 = .ok (.ifCond .eq 24, 3) := by decide +kernel
theorem dX4_rehearse_72 : decode cX4_rehearse 72 = .ok (.aload_n 0, 1) := by decide +kernel
theorem dX4_rehearse_73 : decode cX4_rehearse 73 = .ok (.getfield 46, 3) := by decide +kernel
theorem dX4_rehearse_76 : decode cX4_rehearse 76 = .ok (.bipush 13, 2) := by decide +kernel
theorem dX4_rehearse_78 : decode cX4_rehearse 78 = .ok (.iload_n 1, 1) := by decide +kernel
theorem dX4_rehearse_79 : decode cX4_rehearse 79 = .ok (.imul, 1) := by decide +kernel
theorem dX4_rehearse_80 : decode cX4_rehearse 80 = .ok (.iload_n 2, 1) := by decide +kernel
theorem dX4_rehearse_81 : decode cX4_rehearse 81 = .ok (.iadd, 1) := by decide +kernel
theorem dX4_rehearse_82 : decode cX4_rehearse 82 = .ok (.bipush 8, 2) := by decide +kernel
theorem dX4_rehearse_84 : decode cX4_rehearse 84 = .ok (.isub, 1) := by decide +kernel
theorem dX4_rehearse_85 : decode cX4_rehearse 85 = .ok (.iaload, 1) := by decide +kernel
theorem dX4_rehearse_86 : decode cX4_rehearse 86 = .ok (.ifCond .lt 7, 3) := by decide +kernel
theorem dX4_rehearse_89 : decode cX4_rehearse 89 = .ok (.iconst 1, 1) := by decide +kernel
theorem dX4_rehearse_90 : decode cX4_rehearse 90 = .ok (.goto 4, 3) := by decide +kernel
theorem dX4_rehearse_93 : decode cX4_rehearse 93 = .ok (.iconst 0, 1) := by decide +kernel
theorem dX4_rehearse_94 : decode cX4_rehearse 94 = .ok (.istore 8, 2) := by decide +kernel
theorem dX4_rehearse_96 : decode cX4_rehearse 96 = .ok (.iconst 0, 1) := by decide +kernel
theorem dX4_rehearse_97 : decode cX4_rehearse 97 = .ok (.istore 9, 2) := by decide +kernel
theorem dX4_rehearse_99 : decode cX4_rehearse 99 = .ok (.iload 9, 2) := by decide +kernel
theorem dX4_rehearse_101 : decode cX4_rehearse 101 = .ok (.aload_n 0, 1) := by decide +kernel
theorem dX4_rehearse_102 : decode cX4_rehearse 102 = .ok (.getfield 56, 3) := by decide +kernel
theorem dX4_rehearse_105 : decode cX4_rehearse 105 = .ok (.if_icmp .ge 98, 3) := by decide +kernel
theorem dX4_rehearse_108 : decode cX4_rehearse 108 = .ok (.iload 6, 2) := by decide +kernel
theorem dX4_rehearse_110 : decode cX4_rehearse 110 = .ok (.ifCond .eq 93, 3) := by decide +kernel
theorem dX4_rehearse_113 : decode cX4_rehearse 113 = .ok (.aload_n 0, 1) := by decide +kernel
theorem dX4_rehearse_114 : decode cX4_rehearse 114 = .ok (.getfield 16, 3) := by decide +kernel
theorem dX4_rehearse_117 : decode cX4_rehearse 117 = .ok (.iload 9, 2) := by decide +kernel
theorem dX4_rehearse_119 : decode cX4_rehearse 119 = .ok (.iaload, 1) := by decide +kernel
theorem dX4_rehearse_120 : decode cX4_rehearse 120 = .ok (.iconst 1, 1) := by decide +kernel
theorem dX4_rehearse_121 : decode cX4_rehearse 121 = .ok (.if_icmp .ne 7, 3) := by decide +kernel
theorem dX4_rehearse_124 : decode cX4_rehearse 124 = .ok (.iconst 0, 1) := by decide +kernel
theorem dX4_rehearse_125 : decode cX4_rehearse 125 = .ok (.goto 12, 3) := by decide +kernel
theorem dX4_rehearse_128 : decode cX4_rehearse 128 = .ok (.aload_n 0, 1) := by decide +kernel
theorem dX4_rehearse_129 : decode cX4_rehearse 129 = .ok (.iload 9, 2) := by decide +kernel
theorem dX4_rehearse_131 : decode cX4_rehearse 131 = .ok (.iload_n 3, 1) := by decide +kernel
theorem dX4_rehearse_132 : decode cX4_rehearse 132 = .ok (.iload 4, 2) := by decide +kernel
theorem dX4_rehearse_134 : decode cX4_rehearse 134 = .ok (.invokevirtual 113, 3) := by decide +kernel
theorem dX4_rehearse_137 : decode cX4_rehearse 137 = .ok (.istore 10, 2) := by decide +kernel
theorem dX4_rehearse_139 : decode cX4_rehearse 139 = .ok (.iload 7, 2) := by decide +kernel
theorem dX4_rehearse_141 : decode cX4_rehearse 141 = .ok (.iload 10, 2) := by decide +kernel
theorem dX4_rehearse_143 : decode cX4_rehearse 143 = .ok (.ifCond .le 10, 3) := by decide +kernel
theorem dX4_rehearse_146 : decode cX4_rehearse 146 = .ok (.iconst 1, 1) := by decide +kernel
theorem dX4_rehearse_147 : decode cX4_rehearse 147 = .ok (.iload 9, 2) := by decide +kernel
theorem dX4_rehearse_149 : decode cX4_rehearse 149 = .ok (.ishl, 1) := by decide +kernel
theorem dX4_rehearse_150 : decode cX4_rehearse 150 = .ok (.goto 4, 3) := by decide +kernel
theorem dX4_rehearse_153 : decode cX4_rehearse 153 = .ok (.iconst 0, 1) := by decide +kernel
theorem dX4_rehearse_154 : decode cX4_rehearse 154 = .ok (.ior, 1) := by decide +kernel
theorem dX4_rehearse_155 : decode cX4_rehearse 155 = .ok (.istore 7, 2) := by decide +kernel
theorem dX4_rehearse_157 : decode cX4_rehearse 157 = .ok (.iload 8, 2) := by decide +kernel
theorem dX4_rehearse_159 : decode cX4_rehearse 159 = .ok (.iload 10, 2) := by decide +kernel
theorem dX4_rehearse_161 : decode cX4_rehearse 161 = .ok (.ifCond .le 32, 3) := by decide +kernel
theorem dX4_rehearse_164 : decode cX4_rehearse 164 = .ok (.aload_n 0, 1) := by decide +kernel
theorem dX4_rehearse_165 : decode cX4_rehearse 165 = .ok (.iload 9, 2) := by decide +kernel
theorem dX4_rehearse_167 : decode cX4_rehearse 167 = .ok (.iload_n 2, 1) := by decide +kernel
theorem dX4_rehearse_168 : decode cX4_rehearse 168 = .ok (.invokevirtual 117, 3) := by decide +kernel
theorem dX4_rehearse_171 : decode cX4_rehearse 171 = .ok (.ifCond .ne 18, 3) := by decide +kernel
theorem dX4_rehearse_174 : decode cX4_rehearse 174 = .ok (.aload_n 0, 1) := by decide +kernel
theorem dX4_rehearse_175 : decode cX4_rehearse 175 = .ok (.getfield 19, 3) := by decide +kernel
theorem dX4_rehearse_178 : decode cX4_rehearse 178 = .ok (.iload 9, 2) := by decide +kernel
theorem dX4_rehearse_180 : decode cX4_rehearse 180 = .ok (.iaload, 1) := by decide +kernel
theorem dX4_rehearse_181 : decode cX4_rehearse 181 = .ok (.iload 10, 2) := by decide +kernel
theorem dX4_rehearse_183 : decode cX4_rehearse 183 = .ok (.iadd, 1) := by decide +kernel
theorem dX4_rehearse_184 : decode cX4_rehearse 184 = .ok (.bipush 60, 2) := by decide +kernel
theorem dX4_rehearse_186 : decode cX4_rehearse 186 = .ok (.if_icmp .le 7, 3) := by decide +kernel
theorem dX4_rehearse_189 : decode cX4_rehearse 189 = .ok (.iconst 1, 1) := by decide +kernel
theorem dX4_rehearse_190 : decode cX4_rehearse 190 = .ok (.goto 4, 3) := by decide +kernel
theorem dX4_rehearse_193 : decode cX4_rehearse 193 = .ok (.iconst 0, 1) := by decide +kernel
theorem dX4_rehearse_194 : decode cX4_rehearse 194 = .ok (.ior, 1) := by decide +kernel
theorem dX4_rehearse_195 : decode cX4_rehearse 195 = .ok (.istore 8, 2) := by decide +kernel
theorem dX4_rehearse_197 : decode cX4_rehearse 197 = .ok (.iinc 9 1, 3) := by decide +kernel
theorem dX4_rehearse_200 : decode cX4_rehearse 200 = .ok (.goto (-101), 3) := by decide +kernel
theorem dX4_rehearse_203 : decode cX4_rehearse 203 = .ok (.aload_n 0, 1) := by decide +kernel
theorem dX4_rehearse_204 : decode cX4_rehearse 204 = .ok (.iload 5, 2) := by decide +kernel
theorem dX4_rehearse_206 : decode cX4_rehearse 206 = .ok (.ifCond .ne 7, 3) := by decide +kernel
theorem dX4_rehearse_209 : decode cX4_rehearse 209 = .ok (.iconst 1, 1) := by decide +kernel
theorem dX4_rehearse_210 : decode cX4_rehearse 210 = .ok (.goto 22, 3) := by decide +kernel
theorem dX4_rehearse_213 : decode cX4_rehearse 213 = .ok (.iload 6, 2) := by decide +kernel
theorem dX4_rehearse_215 : decode cX4_rehearse 215 = .ok (.ifCond .ne 7, 3) := by decide +kernel
theorem dX4_rehearse_218 : decode cX4_rehearse 218 = .ok (.iconst 2, 1) := by decide +kernel
theorem dX4_rehearse_219 : decode cX4_rehearse 219 = .ok (.goto 13, 3) := by decide +kernel
theorem dX4_rehearse_222 : decode cX4_rehearse 222 = .ok (.iload 8, 2) := by decide +kernel
theorem dX4_rehearse_224 : decode cX4_rehearse 224 = .ok (.ifCond .eq 7, 3) := by decide +kernel
theorem dX4_rehearse_227 : decode cX4_rehearse 227 = .ok (.iconst 3, 1) := by decide +kernel
theorem dX4_rehearse_228 : decode cX4_rehearse 228 = .ok (.goto 4, 3) := by decide +kernel
theorem dX4_rehearse_231 : decode cX4_rehearse 231 = .ok (.iconst 0, 1) := by decide +kernel
theorem dX4_rehearse_232 : decode cX4_rehearse 232 = .ok (.invokevirtual 63, 3) := by decide +kernel
theorem dX4_rehearse_235 : decode cX4_rehearse 235 = .ok (.ifCond .eq 5, 3) := by decide +kernel
theorem dX4_rehearse_238 : decode cX4_rehearse 238 = .ok (.iconst (-1), 1) := by decide +kernel
theorem dX4_rehearse_239 : decode cX4_rehearse 239 = .ok (.ireturn, 1) := by decide +kernel
theorem dX4_rehearse_240 : decode cX4_rehearse 240 = .ok (.iconst 0, 1) := by decide +kernel
theorem dX4_rehearse_241 : decode cX4_rehearse 241 = .ok (.istore 9, 2) := by decide +kernel
theorem dX4_rehearse_243 : decode cX4_rehearse 243 = .ok (.iload 9, 2) := by decide +kernel
theorem dX4_rehearse_245 : decode cX4_rehearse 245 = .ok (.aload_n 0, 1) := by decide +kernel
theorem dX4_rehearse_246 : decode cX4_rehearse 246 = .ok (.getfield 56, 3) := by decide +kernel
theorem dX4_rehearse_249 : decode cX4_rehearse 249 = .ok (.if_icmp .ge 43, 3) := by decide +kernel
theorem dX4_rehearse_252 : decode cX4_rehearse 252 = .ok (.aload_n 0, 1) := by decide +kernel
theorem dX4_rehearse_253 : decode cX4_rehearse 253 = .ok (.getfield 19, 3) := by decide +kernel
theorem dX4_rehearse_256 : decode cX4_rehearse 256 = .ok (.iload 9, 2) := by decide +kernel
theorem dX4_rehearse_258 : decode cX4_rehearse 258 = .ok (.dup2, 1) := by decide +kernel
theorem dX4_rehearse_259 : decode cX4_rehearse 259 = .ok (.iaload, 1) := by decide +kernel
theorem dX4_rehearse_260 : decode cX4_rehearse 260 = .ok (.iload 7, 2) := by decide +kernel
theorem dX4_rehearse_262 : decode cX4_rehearse 262 = .ok (.iload 9, 2) := by decide +kernel
theorem dX4_rehearse_264 : decode cX4_rehearse 264 = .ok (.ishr, 1) := by decide +kernel
theorem dX4_rehearse_265 : decode cX4_rehearse 265 = .ok (.iconst 1, 1) := by decide +kernel
theorem dX4_rehearse_266 : decode cX4_rehearse 266 = .ok (.iand, 1) := by decide +kernel
theorem dX4_rehearse_267 : decode cX4_rehearse 267 = .ok (.iconst 1, 1) := by decide +kernel
theorem dX4_rehearse_268 : decode cX4_rehearse 268 = .ok (.if_icmp .ne 15, 3) := by decide +kernel
theorem dX4_rehearse_271 : decode cX4_rehearse 271 = .ok (.aload_n 0, 1) := by decide +kernel
theorem dX4_rehearse_272 : decode cX4_rehearse 272 = .ok (.iload 9, 2) := by decide +kernel
theorem dX4_rehearse_274 : decode cX4_rehearse 274 = .ok (.iload_n 3, 1) := by decide +kernel
theorem dX4_rehearse_275 : decode cX4_rehearse 275 = .ok (.iload 4, 2) := by decide +kernel
theorem dX4_rehearse_277 : decode cX4_rehearse 277 = .ok (.invokevirtual 113, 3) := by decide +kernel
theorem dX4_rehearse_280 : decode cX4_rehearse 280 = .ok (.goto 4, 3) := by decide +kernel
theorem dX4_rehearse_283 : decode cX4_rehearse 283 = .ok (.iconst 0, 1) := by decide +kernel
theorem dX4_rehearse_284 : decode cX4_rehearse 284 = .ok (.iadd, 1) := by decide +kernel
theorem dX4_rehearse_285 : decode cX4_rehearse 285 = .ok (.iastore, 1) := by decide +kernel
theorem dX4_rehearse_286 : decode cX4_rehearse 286 = .ok (.iinc 9 1, 3) := by decide +kernel
theorem dX4_rehearse_289 : decode cX4_rehearse 289 = .ok (.goto (-46), 3) := by decide +kernel
theorem dX4_rehearse_292 : decode cX4_rehearse 292 = .ok (.aload_n 0, 1) := by decide +kernel
theorem dX4_rehearse_293 : decode cX4_rehearse 293 = .ok (.getfield 46, 3) := by decide +kernel
theorem dX4_rehearse_296 : decode cX4_rehearse 296 = .ok (.bipush 13, 2) := by decide +kernel
theorem dX4_rehearse_298 : decode cX4_rehearse 298 = .ok (.iload_n 1, 1) := by decide +kernel
theorem dX4_rehearse_299 : decode cX4_rehearse 299 = .ok (.imul, 1) := by decide +kernel
theorem dX4_rehearse_300 : decode cX4_rehearse 300 = .ok (.iload_n 2, 1) := by decide +kernel
theorem dX4_rehearse_301 : decode cX4_rehearse 301 = .ok (.iadd, 1) := by decide +kernel
theorem dX4_rehearse_302 : decode cX4_rehearse 302 = .ok (.bipush 8, 2) := by decide +kernel
theorem dX4_rehearse_304 : decode cX4_rehearse 304 = .ok (.isub, 1) := by decide +kernel
theorem dX4_rehearse_305 : decode cX4_rehearse 305 = .ok (.iload 7, 2) := by decide +kernel
theorem dX4_rehearse_307 : decode cX4_rehearse 307 = .ok (.iastore, 1) := by decide +kernel
theorem dX4_rehearse_308 : decode cX4_rehearse 308 = .ok (.iload 7, 2) := by decide +kernel
theorem dX4_rehearse_310 : decode cX4_rehearse 310 = .ok (.ireturn, 1) := by decide +kernel
theorem dX4_rehearsal_0 : decode cX4_rehearsal 0 = .ok (.aload_n 0, 1) := by decide +kernel
theorem dX4_rehearsal_1 : decode cX4_rehearsal 1 = .ok (.aload_n 0, 1) := by decide +kernel
theorem dX4_rehearsal_2 : decode cX4_rehearsal 2 = .ok (.iload_n 1, 1) := by decide +kernel
theorem dX4_rehearsal_3 : decode cX4_rehearsal 3 = .ok (.iconst 0, 1) := by decide +kernel
theorem dX4_rehearsal_4 : decode cX4_rehearsal 4 = .ok (.iconst 2, 1) := by decide +kernel
theorem dX4_rehearsal_5 : decode cX4_rehearsal 5 = .ok (.invokevirtual 59, 3) := by decide +kernel
theorem dX4_rehearsal_8 : decode cX4_rehearsal 8 = .ok (.ifCond .eq 19, 3) := by decide +kernel
theorem dX4_rehearsal_11 : decode cX4_rehearsal 11 = .ok (.aload_n 0, 1) := by decide +kernel
theorem dX4_rehearsal_12 : decode cX4_rehearsal 12 = .ok (.iload_n 2, 1) := by decide +kernel
theorem dX4_rehearsal_13 : decode cX4_rehearsal 13 = .ok (.bipush 8, 2) := by decide +kernel
theorem dX4_rehearsal_15 : decode cX4_rehearsal 15 = .ok (.bipush 20, 2) := by decide +kernel
theorem dX4_rehearsal_17 : decode cX4_rehearsal 17 = .ok (.invokevirtual 59, 3) := by decide +kernel
theorem dX4_rehearsal_20 : decode cX4_rehearsal 20 = .ok (.ifCond .eq 7, 3) := by decide +kernel
theorem dX4_rehearsal_23 : decode cX4_rehearsal 23 = .ok (.iconst 0, 1) := by decide +kernel
theorem dX4_rehearsal_24 : decode cX4_rehearsal 24 = .ok (.goto 4, 3) := by decide +kernel
theorem dX4_rehearsal_27 : decode cX4_rehearsal 27 = .ok (.iconst 1, 1) := by decide +kernel
theorem dX4_rehearsal_28 : decode cX4_rehearsal 28 = .ok (.invokevirtual 63, 3) := by decide +kernel
theorem dX4_rehearsal_31 : decode cX4_rehearsal 31 = .ok (.ifCond .eq 7, 3) := by decide +kernel
theorem dX4_rehearsal_34 : decode cX4_rehearsal 34 = .ok (.iconst (-1), 1) := by decide +kernel
theorem dX4_rehearsal_35 : decode cX4_rehearsal 35 = .ok (.goto 17, 3) := by decide +kernel
theorem dX4_rehearsal_38 : decode cX4_rehearsal 38 = .ok (.aload_n 0, 1) := by decide +kernel
theorem dX4_rehearsal_39 : decode cX4_rehearsal 39 = .ok (.getfield 46, 3) := by decide +kernel
theorem dX4_rehearsal_42 : decode cX4_rehearsal 42 = .ok (.bipush 13, 2) := by decide +kernel
theorem dX4_rehearsal_44 : decode cX4_rehearsal 44 = .ok (.iload_n 1, 1) := by decide +kernel
theorem dX4_rehearsal_45 : decode cX4_rehearsal 45 = .ok (.imul, 1) := by decide +kernel
theorem dX4_rehearsal_46 : decode cX4_rehearsal 46 = .ok (.iload_n 2, 1) := by decide +kernel
theorem dX4_rehearsal_47 : decode cX4_rehearsal 47 = .ok (.iadd, 1) := by decide +kernel
theorem dX4_rehearsal_48 : decode cX4_rehearsal 48 = .ok (.bipush 8, 2) := by decide +kernel
theorem dX4_rehearsal_50 : decode cX4_rehearsal 50 = .ok (.isub, 1) := by decide +kernel
theorem dX4_rehearsal_51 : decode cX4_rehearsal 51 = .ok (.iaload, 1) := by decide +kernel
theorem dX4_rehearsal_52 : decode cX4_rehearsal 52 = .ok (.ireturn, 1) := by decide +kernel
theorem dX4_knees_0 : decode cX4_knees 0 = .ok (.aload_n 0, 1) := by decide +kernel
theorem dX4_knees_1 : decode cX4_knees 1 = .ok (.aload_n 0, 1) := by decide +kernel
theorem dX4_knees_2 : decode cX4_knees 2 = .ok (.iload_n 1, 1) := by decide +kernel
theorem dX4_knees_3 : decode cX4_knees 3 = .ok (.invokevirtual 67, 3) := by decide +kernel
theorem dX4_knees_6 : decode cX4_knees 6 = .ok (.ifCond .eq 7, 3) := by decide +kernel
theorem dX4_knees_9 : decode cX4_knees 9 = .ok (.iconst 0, 1) := by decide +kernel
theorem dX4_knees_10 : decode cX4_knees 10 = .ok (.goto 4, 3) := by decide +kernel
theorem dX4_knees_13 : decode cX4_knees 13 = .ok (.iconst 1, 1) := by decide +kernel
theorem dX4_knees_14 : decode cX4_knees 14 = .ok (.invokevirtual 63, 3) := by decide +kernel
theorem dX4_knees_17 : decode cX4_knees 17 = .ok (.ifCond .eq 7, 3) := by decide +kernel
theorem dX4_knees_20 : decode cX4_knees 20 = .ok (.iconst (-1), 1) := by decide +kernel
theorem dX4_knees_21 : decode cX4_knees 21 = .ok (.goto 9, 3) := by decide +kernel
theorem dX4_knees_24 : decode cX4_knees 24 = .ok (.aload_n 0, 1) := by decide +kernel
theorem dX4_knees_25 : decode cX4_knees 25 = .ok (.getfield 19, 3) := by decide +kernel
theorem dX4_knees_28 : decode cX4_knees 28 = .ok (.iload_n 1, 1) := by decide +kernel
theorem dX4_knees_29 : decode cX4_knees 29 = .ok (.iaload, 1) := by decide +kernel
theorem dX4_knees_30 : decode cX4_knees 30 = .ok (.ireturn, 1) := by decide +kernel
theorem dX4_canCome_0 : decode cX4_canCome 0 = .ok (.aload_n 0, 1) := by decide +kernel
theorem dX4_canCome_1 : decode cX4_canCome 1 = .ok (.iload_n 2, 1) := by decide +kernel
theorem dX4_canCome_2 : decode cX4_canCome 2 = .ok (.iload_n 3, 1) := by decide +kernel
theorem dX4_canCome_3 : decode cX4_canCome 3 = .ok (.invokevirtual 77, 3) := by decide +kernel
theorem dX4_canCome_6 : decode cX4_canCome 6 = .ok (.aload_n 0, 1) := by decide +kernel
theorem dX4_canCome_7 : decode cX4_canCome 7 = .ok (.iload_n 1, 1) := by decide +kernel
theorem dX4_canCome_8 : decode cX4_canCome 8 = .ok (.iload_n 3, 1) := by decide +kernel
theorem dX4_canCome_9 : decode cX4_canCome 9 = .ok (.invokevirtual 77, 3) := by decide +kernel
theorem dX4_canCome_12 : decode cX4_canCome 12 = .ok (.isub, 1) := by decide +kernel
theorem dX4_canCome_13 : decode cX4_canCome 13 = .ok (.istore 4, 2) := by decide +kernel
theorem dX4_canCome_15 : decode cX4_canCome 15 = .ok (.aload_n 0, 1) := by decide +kernel
theorem dX4_canCome_16 : decode cX4_canCome 16 = .ok (.iload_n 2, 1) := by decide +kernel
theorem dX4_canCome_17 : decode cX4_canCome 17 = .ok (.iload_n 3, 1) := by decide +kernel
theorem dX4_canCome_18 : decode cX4_canCome 18 = .ok (.invokevirtual 73, 3) := by decide +kernel
theorem dX4_canCome_21 : decode cX4_canCome 21 = .ok (.aload_n 0, 1) := by decide +kernel
theorem dX4_canCome_22 : decode cX4_canCome 22 = .ok (.iload_n 1, 1) := by decide +kernel
theorem dX4_canCome_23 : decode cX4_canCome 23 = .ok (.iload_n 3, 1) := by decide +kernel
theorem dX4_canCome_24 : decode cX4_canCome 24 = .ok (.invokevirtual 73, 3) := by decide +kernel
theorem dX4_canCome_27 : decode cX4_canCome 27 = .ok (.isub, 1) := by decide +kernel
theorem dX4_canCome_28 : decode cX4_canCome 28 = .ok (.istore 5, 2) := by decide +kernel
theorem dX4_canCome_30 : decode cX4_canCome 30 = .ok (.iload_n 3, 1) := by decide +kernel
theorem dX4_canCome_31 : decode cX4_canCome 31 = .ok (.bipush 63, 2) := by decide +kernel
theorem dX4_canCome_33 : decode cX4_canCome 33 = .ok (.if_icmp .eq 27, 3) := by decide +kernel
theorem dX4_canCome_36 : decode cX4_canCome 36 = .ok (.aload_n 0, 1) := by decide +kernel
theorem dX4_canCome_37 : decode cX4_canCome 37 = .ok (.iload 4, 2) := by decide +kernel
theorem dX4_canCome_39 : decode cX4_canCome 39 = .ok (.bipush (-2), 2) := by decide +kernel
theorem dX4_canCome_41 : decode cX4_canCome 41 = .ok (.iconst 2, 1) := by decide +kernel
theorem dX4_canCome_42 : decode cX4_canCome 42 = .ok (.invokevirtual 59, 3) := by decide +kernel
theorem dX4_canCome_45 : decode cX4_canCome 45 = .ok (.ifCond .eq 15, 3) := by decide +kernel
theorem dX4_canCome_48 : decode cX4_canCome 48 = .ok (.aload_n 0, 1) := by decide +kernel
theorem dX4_canCome_49 : decode cX4_canCome 49 = .ok (.iload 5, 2) := by decide +kernel
theorem dX4_canCome_51 : decode cX4_canCome 51 = .ok (.bipush (-2), 2) := by decide +kernel
theorem dX4_canCome_53 : decode cX4_canCome 53 = .ok (.iconst 2, 1) := by decide +kernel
theorem dX4_canCome_54 : decode cX4_canCome 54 = .ok (.invokevirtual 59, 3) := by decide +kernel
theorem dX4_canCome_57 : decode cX4_canCome 57 = .ok (.ifCond .ne 5, 3) := by decide +kernel
theorem dX4_canCome_60 : decode cX4_canCome 60 = .ok (.iconst 0, 1) := by decide +kernel
theorem dX4_canCome_61 : decode cX4_canCome 61 = .ok (.ireturn, 1) := by decide +kernel
theorem dX4_canCome_62 : decode cX4_canCome 62 = .ok (.bipush 64, 2) := by decide +kernel
theorem dX4_canCome_64 : decode cX4_canCome 64 = .ok (.iload_n 1, 1) := by decide +kernel
theorem dX4_canCome_65 : decode cX4_canCome 65 = .ok (.imul, 1) := by decide +kernel
theorem dX4_canCome_66 : decode cX4_canCome 66 = .ok (.iload_n 3, 1) := by decide +kernel
theorem dX4_canCome_67 : decode cX4_canCome 67 = .ok (.iadd, 1) := by decide +kernel
theorem dX4_canCome_68 : decode cX4_canCome 68 = .ok (.istore 6, 2) := by decide +kernel
theorem dX4_canCome_70 : decode cX4_canCome 70 = .ok (.aload_n 0, 1) := by decide +kernel
theorem dX4_canCome_71 : decode cX4_canCome 71 = .ok (.aload_n 0, 1) := by decide +kernel
theorem dX4_canCome_72 : decode cX4_canCome 72 = .ok (.getfield 22, 3) := by decide +kernel
theorem dX4_canCome_75 : decode cX4_canCome 75 = .ok (.iload 6, 2) := by decide +kernel
theorem dX4_canCome_77 : decode cX4_canCome 77 = .ok (.iaload, 1) := by decide +kernel
theorem dX4_canCome_78 : decode cX4_canCome 78 = .ok (.iload 4, 2) := by decide +kernel
theorem dX4_canCome_80 : decode cX4_canCome 80 = .ok (.iadd, 1) := by decide +kernel
theorem dX4_canCome_81 : decode cX4_canCome 81 = .ok (.bipush (-2), 2) := by decide +kernel
theorem dX4_canCome_83 : decode cX4_canCome 83 = .ok (.iconst 2, 1) := by decide +kernel
theorem dX4_canCome_84 : decode cX4_canCome 84 = .ok (.invokevirtual 59, 3) := by decide +kernel
theorem dX4_canCome_87 : decode cX4_canCome 87 = .ok (.ifCond .eq 71, 3) := by decide +kernel
theorem dX4_canCome_90 : decode cX4_canCome 90 = .ok (.aload_n 0, 1) := by decide +kernel
theorem dX4_canCome_91 : decode cX4_canCome 91 = .ok (.aload_n 0, 1) := by decide +kernel
theorem dX4_canCome_92 : decode cX4_canCome 92 = .ok (.getfield 25, 3) := by decide +kernel
theorem dX4_canCome_95 : decode cX4_canCome 95 = .ok (.iload 6, 2) := by decide +kernel
theorem dX4_canCome_97 : decode cX4_canCome 97 = .ok (.iaload, 1) := by decide +kernel
theorem dX4_canCome_98 : decode cX4_canCome 98 = .ok (.iload 5, 2) := by decide +kernel
theorem dX4_canCome_100 : decode cX4_canCome 100 = .ok (.iadd, 1) := by decide +kernel
theorem dX4_canCome_101 : decode cX4_canCome 101 = .ok (.bipush (-2), 2) := by decide +kernel
theorem dX4_canCome_103 : decode cX4_canCome 103 = .ok (.iconst 2, 1) := by decide +kernel
theorem dX4_canCome_104 : decode cX4_canCome 104 = .ok (.invokevirtual 59, 3) := by decide +kernel
theorem dX4_canCome_107 : decode cX4_canCome 107 = .ok (.ifCond .eq 51, 3) := by decide +kernel
theorem dX4_canCome_110 : decode cX4_canCome 110 = .ok (.aload_n 0, 1) := by decide +kernel
theorem dX4_canCome_111 : decode cX4_canCome 111 = .ok (.aload_n 0, 1) := by decide +kernel
theorem dX4_canCome_112 : decode cX4_canCome 112 = .ok (.getfield 22, 3) := by decide +kernel
theorem dX4_canCome_115 : decode cX4_canCome 115 = .ok (.iload 6, 2) := by decide +kernel
theorem dX4_canCome_117 : decode cX4_canCome 117 = .ok (.iconst 1, 1) := by decide +kernel
theorem dX4_canCome_118 : decode cX4_canCome 118 = .ok (.iadd, 1) := by decide +kernel
theorem dX4_canCome_119 : decode cX4_canCome 119 = .ok (.iaload, 1) := by decide +kernel
theorem dX4_canCome_120 : decode cX4_canCome 120 = .ok (.iload 4, 2) := by decide +kernel
theorem dX4_canCome_122 : decode cX4_canCome 122 = .ok (.isub, 1) := by decide +kernel
theorem dX4_canCome_123 : decode cX4_canCome 123 = .ok (.bipush (-2), 2) := by decide +kernel
theorem dX4_canCome_125 : decode cX4_canCome 125 = .ok (.iconst 2, 1) := by decide +kernel
theorem dX4_canCome_126 : decode cX4_canCome 126 = .ok (.invokevirtual 59, 3) := by decide +kernel
theorem dX4_canCome_129 : decode cX4_canCome 129 = .ok (.ifCond .eq 29, 3) := by decide +kernel
theorem dX4_canCome_132 : decode cX4_canCome 132 = .ok (.aload_n 0, 1) := by decide +kernel
theorem dX4_canCome_133 : decode cX4_canCome 133 = .ok (.aload_n 0, 1) := by decide +kernel
theorem dX4_canCome_134 : decode cX4_canCome 134 = .ok (.getfield 25, 3) := by decide +kernel
theorem dX4_canCome_137 : decode cX4_canCome 137 = .ok (.iload 6, 2) := by decide +kernel
theorem dX4_canCome_139 : decode cX4_canCome 139 = .ok (.iconst 1, 1) := by decide +kernel
theorem dX4_canCome_140 : decode cX4_canCome 140 = .ok (.iadd, 1) := by decide +kernel
theorem dX4_canCome_141 : decode cX4_canCome 141 = .ok (.iaload, 1) := by decide +kernel
theorem dX4_canCome_142 : decode cX4_canCome 142 = .ok (.iload 5, 2) := by decide +kernel
theorem dX4_canCome_144 : decode cX4_canCome 144 = .ok (.isub, 1) := by decide +kernel
theorem dX4_canCome_145 : decode cX4_canCome 145 = .ok (.bipush (-2), 2) := by decide +kernel
theorem dX4_canCome_147 : decode cX4_canCome 147 = .ok (.iconst 2, 1) := by decide +kernel
theorem dX4_canCome_148 : decode cX4_canCome 148 = .ok (.invokevirtual 59, 3) := by decide +kernel
theorem dX4_canCome_151 : decode cX4_canCome 151 = .ok (.ifCond .eq 7, 3) := by decide +kernel
theorem dX4_canCome_154 : decode cX4_canCome 154 = .ok (.iconst 1, 1) := by decide +kernel
theorem dX4_canCome_155 : decode cX4_canCome 155 = .ok (.goto 4, 3) := by decide +kernel
theorem dX4_canCome_158 : decode cX4_canCome 158 = .ok (.iconst 0, 1) := by decide +kernel
theorem dX4_canCome_159 : decode cX4_canCome 159 = .ok (.ireturn, 1) := by decide +kernel
end
section
theorem dX4_comes_0 : decode cX4_comes 0 = .ok (.aload_n 0, 1) := by decide +kernel
theorem dX4_comes_1 : decode cX4_comes 1 = .ok (.iload_n 2, 1) := by decide +kernel
theorem dX4_comes_2 : decode cX4_comes 2 = .ok (.iload_n 3, 1) := by decide +kernel
theorem dX4_comes_3 : decode cX4_comes 3 = .ok (.invokevirtual 77, 3) := by decide +kernel
theorem dX4_comes_6 : decode cX4_comes 6 = .ok (.aload_n 0, 1) := by decide +kernel
theorem dX4_comes_7 : decode cX4_comes 7 = .ok (.iload_n 1, 1) := by decide +kernel
theorem dX4_comes_8 : decode cX4_comes 8 = .ok (.iload_n 3, 1) := by decide +kernel
theorem dX4_comes_9 : decode cX4_comes 9 = .ok (.invokevirtual 77, 3) := by decide +kernel
theorem dX4_comes_12 : decode cX4_comes 12 = .ok (.isub, 1) := by decide +kernel
theorem dX4_comes_13 : decode cX4_comes 13 = .ok (.istore 4, 2) := by decide +kernel
theorem dX4_comes_15 : decode cX4_comes 15 = .ok (.aload_n 0, 1) := by decide +kernel
theorem dX4_comes_16 : decode cX4_comes 16 = .ok (.iload_n 2, 1) := by decide +kernel
theorem dX4_comes_17 : decode cX4_comes 17 = .ok (.iload_n 3, 1) := by decide +kernel
theorem dX4_comes_18 : decode cX4_comes 18 = .ok (.invokevirtual 73, 3) := by decide +kernel
theorem dX4_comes_21 : decode cX4_comes 21 = .ok (.aload_n 0, 1) := by decide +kernel
theorem dX4_comes_22 : decode cX4_comes 22 = .ok (.iload_n 1, 1) := by decide +kernel
theorem dX4_comes_23 : decode cX4_comes 23 = .ok (.iload_n 3, 1) := by decide +kernel
theorem dX4_comes_24 : decode cX4_comes 24 = .ok (.invokevirtual 73, 3) := by decide +kernel
theorem dX4_comes_27 : decode cX4_comes 27 = .ok (.isub, 1) := by decide +kernel
theorem dX4_comes_28 : decode cX4_comes 28 = .ok (.istore 5, 2) := by decide +kernel
theorem dX4_comes_30 : decode cX4_comes 30 = .ok (.bipush 64, 2) := by decide +kernel
theorem dX4_comes_32 : decode cX4_comes 32 = .ok (.iload_n 1, 1) := by decide +kernel
theorem dX4_comes_33 : decode cX4_comes 33 = .ok (.imul, 1) := by decide +kernel
theorem dX4_comes_34 : decode cX4_comes 34 = .ok (.iload_n 3, 1) := by decide +kernel
theorem dX4_comes_35 : decode cX4_comes 35 = .ok (.iadd, 1) := by decide +kernel
theorem dX4_comes_36 : decode cX4_comes 36 = .ok (.istore 6, 2) := by decide +kernel
theorem dX4_comes_38 : decode cX4_comes 38 = .ok (.aload_n 0, 1) := by decide +kernel
theorem dX4_comes_39 : decode cX4_comes 39 = .ok (.getfield 22, 3) := by decide +kernel
theorem dX4_comes_42 : decode cX4_comes 42 = .ok (.iload 6, 2) := by decide +kernel
theorem dX4_comes_44 : decode cX4_comes 44 = .ok (.dup2, 1) := by decide +kernel
theorem dX4_comes_45 : decode cX4_comes 45 = .ok (.iaload, 1) := by decide +kernel
theorem dX4_comes_46 : decode cX4_comes 46 = .ok (.iload 4, 2) := by decide +kernel
theorem dX4_comes_48 : decode cX4_comes 48 = .ok (.iadd, 1) := by decide +kernel
theorem dX4_comes_49 : decode cX4_comes 49 = .ok (.iastore, 1) := by decide +kernel
theorem dX4_comes_50 : decode cX4_comes 50 = .ok (.aload_n 0, 1) := by decide +kernel
theorem dX4_comes_51 : decode cX4_comes 51 = .ok (.getfield 25, 3) := by decide +kernel
theorem dX4_comes_54 : decode cX4_comes 54 = .ok (.iload 6, 2) := by decide +kernel
theorem dX4_comes_56 : decode cX4_comes 56 = .ok (.dup2, 1) := by decide +kernel
theorem dX4_comes_57 : decode cX4_comes 57 = .ok (.iaload, 1) := by decide +kernel
theorem dX4_comes_58 : decode cX4_comes 58 = .ok (.iload 5, 2) := by decide +kernel
theorem dX4_comes_60 : decode cX4_comes 60 = .ok (.iadd, 1) := by decide +kernel
theorem dX4_comes_61 : decode cX4_comes 61 = .ok (.iastore, 1) := by decide +kernel
theorem dX4_comes_62 : decode cX4_comes 62 = .ok (.aload_n 0, 1) := by decide +kernel
theorem dX4_comes_63 : decode cX4_comes 63 = .ok (.getfield 22, 3) := by decide +kernel
theorem dX4_comes_66 : decode cX4_comes 66 = .ok (.iload 6, 2) := by decide +kernel
theorem dX4_comes_68 : decode cX4_comes 68 = .ok (.iconst 1, 1) := by decide +kernel
theorem dX4_comes_69 : decode cX4_comes 69 = .ok (.iadd, 1) := by decide +kernel
theorem dX4_comes_70 : decode cX4_comes 70 = .ok (.dup2, 1) := by decide +kernel
theorem dX4_comes_71 : decode cX4_comes 71 = .ok (.iaload, 1) := by decide +kernel
theorem dX4_comes_72 : decode cX4_comes 72 = .ok (.iload 4, 2) := by decide +kernel
theorem dX4_comes_74 : decode cX4_comes 74 = .ok (.isub, 1) := by decide +kernel
theorem dX4_comes_75 : decode cX4_comes 75 = .ok (.iastore, 1) := by decide +kernel
theorem dX4_comes_76 : decode cX4_comes 76 = .ok (.aload_n 0, 1) := by decide +kernel
theorem dX4_comes_77 : decode cX4_comes 77 = .ok (.getfield 25, 3) := by decide +kernel
theorem dX4_comes_80 : decode cX4_comes 80 = .ok (.iload 6, 2) := by decide +kernel
theorem dX4_comes_82 : decode cX4_comes 82 = .ok (.iconst 1, 1) := by decide +kernel
theorem dX4_comes_83 : decode cX4_comes 83 = .ok (.iadd, 1) := by decide +kernel
theorem dX4_comes_84 : decode cX4_comes 84 = .ok (.dup2, 1) := by decide +kernel
theorem dX4_comes_85 : decode cX4_comes 85 = .ok (.iaload, 1) := by decide +kernel
theorem dX4_comes_86 : decode cX4_comes 86 = .ok (.iload 5, 2) := by decide +kernel
theorem dX4_comes_88 : decode cX4_comes 88 = .ok (.isub, 1) := by decide +kernel
theorem dX4_comes_89 : decode cX4_comes 89 = .ok (.iastore, 1) := by decide +kernel
theorem dX4_comes_90 : decode cX4_comes 90 = .ok (.return_, 1) := by decide +kernel
theorem dX4_mends_0 : decode cX4_mends 0 = .ok (.aload_n 0, 1) := by decide +kernel
theorem dX4_mends_1 : decode cX4_mends 1 = .ok (.getfield 28, 3) := by decide +kernel
theorem dX4_mends_4 : decode cX4_mends 4 = .ok (.iload_n 1, 1) := by decide +kernel
theorem dX4_mends_5 : decode cX4_mends 5 = .ok (.iaload, 1) := by decide +kernel
theorem dX4_mends_6 : decode cX4_mends 6 = .ok (.istore_n 3, 1) := by decide +kernel
theorem dX4_mends_7 : decode cX4_mends 7 = .ok (.iconst (-1), 1) := by decide +kernel
theorem dX4_mends_8 : decode cX4_mends 8 = .ok (.istore 4, 2) := by decide +kernel
theorem dX4_mends_10 : decode cX4_mends 10 = .ok (.iconst (-1), 1) := by decide +kernel
theorem dX4_mends_11 : decode cX4_mends 11 = .ok (.istore 5, 2) := by decide +kernel
theorem dX4_mends_13 : decode cX4_mends 13 = .ok (.aload_n 0, 1) := by decide +kernel
theorem dX4_mends_14 : decode cX4_mends 14 = .ok (.getfield 56, 3) := by decide +kernel
theorem dX4_mends_17 : decode cX4_mends 17 = .ok (.iconst 1, 1) := by decide +kernel
theorem dX4_mends_18 : decode cX4_mends 18 = .ok (.isub, 1) := by decide +kernel
theorem dX4_mends_19 : decode cX4_mends 19 = .ok (.istore 6, 2) := by decide +kernel
theorem dX4_mends_21 : decode cX4_mends 21 = .ok (.iload 6, 2) := by decide +kernel
theorem dX4_mends_23 : decode cX4_mends 23 = .ok (.ifCond .lt 91, 3) := by decide +kernel
theorem dX4_mends_26 : decode cX4_mends 26 = .ok (.aload_n 0, 1) := by decide +kernel
theorem dX4_mends_27 : decode cX4_mends 27 = .ok (.getfield 16, 3) := by decide +kernel
theorem dX4_mends_30 : decode cX4_mends 30 = .ok (.iload 6, 2) := by decide +kernel
theorem dX4_mends_32 : decode cX4_mends 32 = .ok (.iaload, 1) := by decide +kernel
theorem dX4_mends_33 : decode cX4_mends 33 = .ok (.ifCond .ne 17, 3) := by decide +kernel
theorem dX4_mends_36 : decode cX4_mends 36 = .ok (.aload_n 0, 1) := by decide +kernel
theorem dX4_mends_37 : decode cX4_mends 37 = .ok (.iload 6, 2) := by decide +kernel
theorem dX4_mends_39 : decode cX4_mends 39 = .ok (.iload_n 3, 1) := by decide +kernel
theorem dX4_mends_40 : decode cX4_mends 40 = .ok (.invokevirtual 98, 3) := by decide +kernel
theorem dX4_mends_43 : decode cX4_mends 43 = .ok (.ifCond .ne 7, 3) := by decide +kernel
theorem dX4_mends_46 : decode cX4_mends 46 = .ok (.iconst 1, 1) := by decide +kernel
theorem dX4_mends_47 : decode cX4_mends 47 = .ok (.goto 4, 3) := by decide +kernel
theorem dX4_mends_50 : decode cX4_mends 50 = .ok (.iconst 0, 1) := by decide +kernel
theorem dX4_mends_51 : decode cX4_mends 51 = .ok (.istore 7, 2) := by decide +kernel
theorem dX4_mends_53 : decode cX4_mends 53 = .ok (.iload 7, 2) := by decide +kernel
theorem dX4_mends_55 : decode cX4_mends 55 = .ok (.ifCond .eq 24, 3) := by decide +kernel
theorem dX4_mends_58 : decode cX4_mends 58 = .ok (.aload_n 0, 1) := by decide +kernel
theorem dX4_mends_59 : decode cX4_mends 59 = .ok (.iload 6, 2) := by decide +kernel
theorem dX4_mends_61 : decode cX4_mends 61 = .ok (.aload_n 0, 1) := by decide +kernel
theorem dX4_mends_62 : decode cX4_mends 62 = .ok (.getfield 31, 3) := by decide +kernel
theorem dX4_mends_65 : decode cX4_mends 65 = .ok (.iload_n 1, 1) := by decide +kernel
theorem dX4_mends_66 : decode cX4_mends 66 = .ok (.iaload, 1) := by decide +kernel
theorem dX4_mends_67 : decode cX4_mends 67 = .ok (.iload_n 3, 1) := by decide +kernel
theorem dX4_mends_68 : decode cX4_mends 68 = .ok (.invokevirtual 95, 3) := by decide +kernel
theorem dX4_mends_71 : decode cX4_mends 71 = .ok (.ifCond .eq 8, 3) := by decide +kernel
theorem dX4_mends_74 : decode cX4_mends 74 = .ok (.iload 6, 2) := by decide +kernel
theorem dX4_mends_76 : decode cX4_mends 76 = .ok (.goto 5, 3) := by decide +kernel
theorem dX4_mends_79 : decode cX4_mends 79 = .ok (.iload 4, 2) := by decide +kernel
theorem dX4_mends_81 : decode cX4_mends 81 = .ok (.istore 4, 2) := by decide +kernel
theorem dX4_mends_83 : decode cX4_mends 83 = .ok (.iload 7, 2) := by decide +kernel
theorem dX4_mends_85 : decode cX4_mends 85 = .ok (.ifCond .eq 19, 3) := by decide +kernel
theorem dX4_mends_88 : decode cX4_mends 88 = .ok (.aload_n 0, 1) := by decide +kernel
theorem dX4_mends_89 : decode cX4_mends 89 = .ok (.iload 6, 2) := by decide +kernel
theorem dX4_mends_91 : decode cX4_mends 91 = .ok (.iload_n 2, 1) := by decide +kernel
theorem dX4_mends_92 : decode cX4_mends 92 = .ok (.iload_n 3, 1) := by decide +kernel
theorem dX4_mends_93 : decode cX4_mends 93 = .ok (.invokevirtual 120, 3) := by decide +kernel
theorem dX4_mends_96 : decode cX4_mends 96 = .ok (.ifCond .eq 8, 3) := by decide +kernel
theorem dX4_mends_99 : decode cX4_mends 99 = .ok (.iload 6, 2) := by decide +kernel
theorem dX4_mends_101 : decode cX4_mends 101 = .ok (.goto 5, 3) := by decide +kernel
theorem dX4_mends_104 : decode cX4_mends 104 = .ok (.iload 5, 2) := by decide +kernel
theorem dX4_mends_106 : decode cX4_mends 106 = .ok (.istore 5, 2) := by decide +kernel
theorem dX4_mends_108 : decode cX4_mends 108 = .ok (.iinc 6 (-1), 3) := by decide +kernel
theorem dX4_mends_111 : decode cX4_mends 111 = .ok (.goto (-90), 3) := by decide +kernel
theorem dX4_mends_114 : decode cX4_mends 114 = .ok (.iload 4, 2) := by decide +kernel
theorem dX4_mends_116 : decode cX4_mends 116 = .ok (.ifCond .lt 8, 3) := by decide +kernel
theorem dX4_mends_119 : decode cX4_mends 119 = .ok (.iload 4, 2) := by decide +kernel
theorem dX4_mends_121 : decode cX4_mends 121 = .ok (.goto 5, 3) := by decide +kernel
theorem dX4_mends_124 : decode cX4_mends 124 = .ok (.iload 5, 2) := by decide +kernel
theorem dX4_mends_126 : decode cX4_mends 126 = .ok (.istore 6, 2) := by decide +kernel
theorem dX4_mends_128 : decode cX4_mends 128 = .ok (.iload 6, 2) := by decide +kernel
theorem dX4_mends_130 : decode cX4_mends 130 = .ok (.ifCond .ge 12, 3) := by decide +kernel
theorem dX4_mends_133 : decode cX4_mends 133 = .ok (.aload_n 0, 1) := by decide +kernel
theorem dX4_mends_134 : decode cX4_mends 134 = .ok (.getfield 40, 3) := by decide +kernel
theorem dX4_mends_137 : decode cX4_mends 137 = .ok (.iload_n 1, 1) := by decide +kernel
theorem dX4_mends_138 : decode cX4_mends 138 = .ok (.iconst 1, 1) := by decide +kernel
theorem dX4_mends_139 : decode cX4_mends 139 = .ok (.iastore, 1) := by decide +kernel
theorem dX4_mends_140 : decode cX4_mends 140 = .ok (.iconst 0, 1) := by decide +kernel
theorem dX4_mends_141 : decode cX4_mends 141 = .ok (.ireturn, 1) := by decide +kernel
theorem dX4_mends_142 : decode cX4_mends 142 = .ok (.iload 4, 2) := by decide +kernel
theorem dX4_mends_144 : decode cX4_mends 144 = .ok (.ifCond .ge 11, 3) := by decide +kernel
theorem dX4_mends_147 : decode cX4_mends 147 = .ok (.aload_n 0, 1) := by decide +kernel
theorem dX4_mends_148 : decode cX4_mends 148 = .ok (.iload 6, 2) := by decide +kernel
theorem dX4_mends_150 : decode cX4_mends 150 = .ok (.iload_n 2, 1) := by decide +kernel
theorem dX4_mends_151 : decode cX4_mends 151 = .ok (.iload_n 3, 1) := by decide +kernel
theorem dX4_mends_152 : decode cX4_mends 152 = .ok (.invokevirtual 123, 3) := by decide +kernel
theorem dX4_mends_155 : decode cX4_mends 155 = .ok (.aload_n 0, 1) := by decide +kernel
theorem dX4_mends_156 : decode cX4_mends 156 = .ok (.getfield 34, 3) := by decide +kernel
theorem dX4_mends_159 : decode cX4_mends 159 = .ok (.iload_n 1, 1) := by decide +kernel
theorem dX4_mends_160 : decode cX4_mends 160 = .ok (.aload_n 0, 1) := by decide +kernel
theorem dX4_mends_161 : decode cX4_mends 161 = .ok (.getfield 34, 3) := by decide +kernel
theorem dX4_mends_164 : decode cX4_mends 164 = .ok (.iload_n 1, 1) := by decide +kernel
theorem dX4_mends_165 : decode cX4_mends 165 = .ok (.iaload, 1) := by decide +kernel
theorem dX4_mends_166 : decode cX4_mends 166 = .ok (.iload_n 2, 1) := by decide +kernel
theorem dX4_mends_167 : decode cX4_mends 167 = .ok (.if_icmp .ne 8, 3) := by decide +kernel
theorem dX4_mends_170 : decode cX4_mends 170 = .ok (.iload 6, 2) := by decide +kernel
theorem dX4_mends_172 : decode cX4_mends 172 = .ok (.goto 9, 3) := by decide +kernel
theorem dX4_mends_175 : decode cX4_mends 175 = .ok (.aload_n 0, 1) := by decide +kernel
theorem dX4_mends_176 : decode cX4_mends 176 = .ok (.getfield 34, 3) := by decide +kernel
theorem dX4_mends_179 : decode cX4_mends 179 = .ok (.iload_n 1, 1) := by decide +kernel
theorem dX4_mends_180 : decode cX4_mends 180 = .ok (.iaload, 1) := by decide +kernel
theorem dX4_mends_181 : decode cX4_mends 181 = .ok (.iastore, 1) := by decide +kernel
theorem dX4_mends_182 : decode cX4_mends 182 = .ok (.aload_n 0, 1) := by decide +kernel
theorem dX4_mends_183 : decode cX4_mends 183 = .ok (.getfield 37, 3) := by decide +kernel
theorem dX4_mends_186 : decode cX4_mends 186 = .ok (.iload_n 1, 1) := by decide +kernel
theorem dX4_mends_187 : decode cX4_mends 187 = .ok (.aload_n 0, 1) := by decide +kernel
theorem dX4_mends_188 : decode cX4_mends 188 = .ok (.getfield 37, 3) := by decide +kernel
theorem dX4_mends_191 : decode cX4_mends 191 = .ok (.iload_n 1, 1) := by decide +kernel
theorem dX4_mends_192 : decode cX4_mends 192 = .ok (.iaload, 1) := by decide +kernel
theorem dX4_mends_193 : decode cX4_mends 193 = .ok (.iload_n 2, 1) := by decide +kernel
theorem dX4_mends_194 : decode cX4_mends 194 = .ok (.if_icmp .ne 8, 3) := by decide +kernel
theorem dX4_mends_197 : decode cX4_mends 197 = .ok (.iload 6, 2) := by decide +kernel
theorem dX4_mends_199 : decode cX4_mends 199 = .ok (.goto 9, 3) := by decide +kernel
theorem dX4_mends_202 : decode cX4_mends 202 = .ok (.aload_n 0, 1) := by decide +kernel
theorem dX4_mends_203 : decode cX4_mends 203 = .ok (.getfield 37, 3) := by decide +kernel
theorem dX4_mends_206 : decode cX4_mends 206 = .ok (.iload_n 1, 1) := by decide +kernel
theorem dX4_mends_207 : decode cX4_mends 207 = .ok (.iaload, 1) := by decide +kernel
theorem dX4_mends_208 : decode cX4_mends 208 = .ok (.iastore, 1) := by decide +kernel
theorem dX4_mends_209 : decode cX4_mends 209 = .ok (.iload 4, 2) := by decide +kernel
theorem dX4_mends_211 : decode cX4_mends 211 = .ok (.ifCond .ge 7, 3) := by decide +kernel
theorem dX4_mends_214 : decode cX4_mends 214 = .ok (.iconst 2, 1) := by decide +kernel
theorem dX4_mends_215 : decode cX4_mends 215 = .ok (.goto 4, 3) := by decide +kernel
theorem dX4_mends_218 : decode cX4_mends 218 = .ok (.iconst 0, 1) := by decide +kernel
theorem dX4_mends_219 : decode cX4_mends 219 = .ok (.ireturn, 1) := by decide +kernel
theorem dX4_hurt_0 : decode cX4_hurt 0 = .ok (.aload_n 0, 1) := by decide +kernel
theorem dX4_hurt_1 : decode cX4_hurt 1 = .ok (.aload_n 0, 1) := by decide +kernel
theorem dX4_hurt_2 : decode cX4_hurt 2 = .ok (.iload_n 1, 1) := by decide +kernel
theorem dX4_hurt_3 : decode cX4_hurt 3 = .ok (.invokevirtual 67, 3) := by decide +kernel
theorem dX4_hurt_6 : decode cX4_hurt 6 = .ok (.ifCond .ne 7, 3) := by decide +kernel
theorem dX4_hurt_9 : decode cX4_hurt 9 = .ok (.iconst 1, 1) := by decide +kernel
theorem dX4_hurt_10 : decode cX4_hurt 10 = .ok (.goto 18, 3) := by decide +kernel
theorem dX4_hurt_13 : decode cX4_hurt 13 = .ok (.aload_n 0, 1) := by decide +kernel
theorem dX4_hurt_14 : decode cX4_hurt 14 = .ok (.getfield 16, 3) := by decide +kernel
theorem dX4_hurt_17 : decode cX4_hurt 17 = .ok (.iload_n 1, 1) := by decide +kernel
theorem dX4_hurt_18 : decode cX4_hurt 18 = .ok (.iaload, 1) := by decide +kernel
theorem dX4_hurt_19 : decode cX4_hurt 19 = .ok (.iconst 1, 1) := by decide +kernel
theorem dX4_hurt_20 : decode cX4_hurt 20 = .ok (.if_icmp .ne 7, 3) := by decide +kernel
theorem dX4_hurt_23 : decode cX4_hurt 23 = .ok (.iconst 2, 1) := by decide +kernel
theorem dX4_hurt_24 : decode cX4_hurt 24 = .ok (.goto 4, 3) := by decide +kernel
theorem dX4_hurt_27 : decode cX4_hurt 27 = .ok (.iconst 0, 1) := by decide +kernel
theorem dX4_hurt_28 : decode cX4_hurt 28 = .ok (.invokevirtual 63, 3) := by decide +kernel
theorem dX4_hurt_31 : decode cX4_hurt 31 = .ok (.ifCond .eq 5, 3) := by decide +kernel
theorem dX4_hurt_34 : decode cX4_hurt 34 = .ok (.iconst (-1), 1) := by decide +kernel
theorem dX4_hurt_35 : decode cX4_hurt 35 = .ok (.ireturn, 1) := by decide +kernel
theorem dX4_hurt_36 : decode cX4_hurt 36 = .ok (.aload_n 0, 1) := by decide +kernel
theorem dX4_hurt_37 : decode cX4_hurt 37 = .ok (.getfield 16, 3) := by decide +kernel
theorem dX4_hurt_40 : decode cX4_hurt 40 = .ok (.iload_n 1, 1) := by decide +kernel
theorem dX4_hurt_41 : decode cX4_hurt 41 = .ok (.iconst 1, 1) := by decide +kernel
theorem dX4_hurt_42 : decode cX4_hurt 42 = .ok (.iastore, 1) := by decide +kernel
theorem dX4_hurt_43 : decode cX4_hurt 43 = .ok (.iconst 0, 1) := by decide +kernel
theorem dX4_hurt_44 : decode cX4_hurt 44 = .ok (.istore_n 2, 1) := by decide +kernel
theorem dX4_hurt_45 : decode cX4_hurt 45 = .ok (.iload_n 2, 1) := by decide +kernel
theorem dX4_hurt_46 : decode cX4_hurt 46 = .ok (.aload_n 0, 1) := by decide +kernel
theorem dX4_hurt_47 : decode cX4_hurt 47 = .ok (.getfield 88, 3) := by decide +kernel
theorem dX4_hurt_50 : decode cX4_hurt 50 = .ok (.if_icmp .ge 35, 3) := by decide +kernel
theorem dX4_hurt_53 : decode cX4_hurt 53 = .ok (.aload_n 0, 1) := by decide +kernel
theorem dX4_hurt_54 : decode cX4_hurt 54 = .ok (.getfield 40, 3) := by decide +kernel
theorem dX4_hurt_57 : decode cX4_hurt 57 = .ok (.iload_n 2, 1) := by decide +kernel
theorem dX4_hurt_58 : decode cX4_hurt 58 = .ok (.aload_n 0, 1) := by decide +kernel
theorem dX4_hurt_59 : decode cX4_hurt 59 = .ok (.getfield 31, 3) := by decide +kernel
theorem dX4_hurt_62 : decode cX4_hurt 62 = .ok (.iload_n 2, 1) := by decide +kernel
theorem dX4_hurt_63 : decode cX4_hurt 63 = .ok (.iaload, 1) := by decide +kernel
theorem dX4_hurt_64 : decode cX4_hurt 64 = .ok (.iload_n 1, 1) := by decide +kernel
theorem dX4_hurt_65 : decode cX4_hurt 65 = .ok (.if_icmp .ne 7, 3) := by decide +kernel
theorem dX4_hurt_68 : decode cX4_hurt 68 = .ok (.iconst 1, 1) := by decide +kernel
theorem dX4_hurt_69 : decode cX4_hurt 69 = .ok (.goto 9, 3) := by decide +kernel
theorem dX4_hurt_72 : decode cX4_hurt 72 = .ok (.aload_n 0, 1) := by decide +kernel
theorem dX4_hurt_73 : decode cX4_hurt 73 = .ok (.getfield 40, 3) := by decide +kernel
theorem dX4_hurt_76 : decode cX4_hurt 76 = .ok (.iload_n 2, 1) := by decide +kernel
theorem dX4_hurt_77 : decode cX4_hurt 77 = .ok (.iaload, 1) := by decide +kernel
theorem dX4_hurt_78 : decode cX4_hurt 78 = .ok (.iastore, 1) := by decide +kernel
theorem dX4_hurt_79 : decode cX4_hurt 79 = .ok (.iinc 2 1, 3) := by decide +kernel
theorem dX4_hurt_82 : decode cX4_hurt 82 = .ok (.goto (-37), 3) := by decide +kernel
theorem dX4_hurt_85 : decode cX4_hurt 85 = .ok (.iconst 0, 1) := by decide +kernel
theorem dX4_hurt_86 : decode cX4_hurt 86 = .ok (.istore_n 2, 1) := by decide +kernel
theorem dX4_hurt_87 : decode cX4_hurt 87 = .ok (.iconst 0, 1) := by decide +kernel
theorem dX4_hurt_88 : decode cX4_hurt 88 = .ok (.istore_n 3, 1) := by decide +kernel
theorem dX4_hurt_89 : decode cX4_hurt 89 = .ok (.iload_n 3, 1) := by decide +kernel
theorem dX4_hurt_90 : decode cX4_hurt 90 = .ok (.aload_n 0, 1) := by decide +kernel
theorem dX4_hurt_91 : decode cX4_hurt 91 = .ok (.getfield 88, 3) := by decide +kernel
theorem dX4_hurt_94 : decode cX4_hurt 94 = .ok (.if_icmp .ge 40, 3) := by decide +kernel
theorem dX4_hurt_97 : decode cX4_hurt 97 = .ok (.iload_n 2, 1) := by decide +kernel
theorem dX4_hurt_98 : decode cX4_hurt 98 = .ok (.aload_n 0, 1) := by decide +kernel
theorem dX4_hurt_99 : decode cX4_hurt 99 = .ok (.getfield 40, 3) := by decide +kernel
theorem dX4_hurt_102 : decode cX4_hurt 102 = .ok (.iload_n 3, 1) := by decide +kernel
theorem dX4_hurt_103 : decode cX4_hurt 103 = .ok (.iaload, 1) := by decide +kernel
theorem dX4_hurt_104 : decode cX4_hurt 104 = .ok (.ifCond .ne 21, 3) := by decide +kernel
theorem dX4_hurt_107 : decode cX4_hurt 107 = .ok (.aload_n 0, 1) := by decide +kernel
theorem dX4_hurt_108 : decode cX4_hurt 108 = .ok (.iload_n 3, 1) := by decide +kernel
theorem dX4_hurt_109 : decode cX4_hurt 109 = .ok (.iload_n 1, 1) := by decide +kernel
theorem dX4_hurt_110 : decode cX4_hurt 110 = .ok (.invokevirtual 91, 3) := by decide +kernel
theorem dX4_hurt_113 : decode cX4_hurt 113 = .ok (.ifCond .eq 12, 3) := by decide +kernel
theorem dX4_hurt_116 : decode cX4_hurt 116 = .ok (.aload_n 0, 1) := by decide +kernel
theorem dX4_hurt_117 : decode cX4_hurt 117 = .ok (.iload_n 3, 1) := by decide +kernel
theorem dX4_hurt_118 : decode cX4_hurt 118 = .ok (.iload_n 1, 1) := by decide +kernel
theorem dX4_hurt_119 : decode cX4_hurt 119 = .ok (.invokevirtual 127, 3) := by decide +kernel
theorem dX4_hurt_122 : decode cX4_hurt 122 = .ok (.goto 4, 3) := by decide +kernel
theorem dX4_hurt_125 : decode cX4_hurt 125 = .ok (.iconst 0, 1) := by decide +kernel
theorem dX4_hurt_126 : decode cX4_hurt 126 = .ok (.iadd, 1) := by decide +kernel
theorem dX4_hurt_127 : decode cX4_hurt 127 = .ok (.istore_n 2, 1) := by decide +kernel
theorem dX4_hurt_128 : decode cX4_hurt 128 = .ok (.iinc 3 1, 3) := by decide +kernel
theorem dX4_hurt_131 : decode cX4_hurt 131 = .ok (.goto (-42), 3) := by decide +kernel
theorem dX4_hurt_134 : decode cX4_hurt 134 = .ok (.iload_n 2, 1) := by decide +kernel
theorem dX4_hurt_135 : decode cX4_hurt 135 = .ok (.ireturn, 1) := by decide +kernel
theorem dX4_sleep_0 : decode cX4_sleep 0 = .ok (.aload_n 0, 1) := by decide +kernel
theorem dX4_sleep_1 : decode cX4_sleep 1 = .ok (.iconst 0, 1) := by decide +kernel
theorem dX4_sleep_2 : decode cX4_sleep 2 = .ok (.invokevirtual 63, 3) := by decide +kernel
theorem dX4_sleep_5 : decode cX4_sleep 5 = .ok (.pop, 1) := by decide +kernel
theorem dX4_sleep_6 : decode cX4_sleep 6 = .ok (.aload_n 0, 1) := by decide +kernel
theorem dX4_sleep_7 : decode cX4_sleep 7 = .ok (.dup, 1) := by decide +kernel
theorem dX4_sleep_8 : decode cX4_sleep 8 = .ok (.getfield 130, 3) := by decide +kernel
theorem dX4_sleep_11 : decode cX4_sleep 11 = .ok (.iconst 1, 1) := by decide +kernel
theorem dX4_sleep_12 : decode cX4_sleep 12 = .ok (.iadd, 1) := by decide +kernel
theorem dX4_sleep_13 : decode cX4_sleep 13 = .ok (.putfield 130, 3) := by decide +kernel
theorem dX4_sleep_16 : decode cX4_sleep 16 = .ok (.aload_n 0, 1) := by decide +kernel
theorem dX4_sleep_17 : decode cX4_sleep 17 = .ok (.invokevirtual 49, 3) := by decide +kernel
theorem dX4_sleep_20 : decode cX4_sleep 20 = .ok (.iconst 0, 1) := by decide +kernel
theorem dX4_sleep_21 : decode cX4_sleep 21 = .ok (.istore_n 1, 1) := by decide +kernel
theorem dX4_sleep_22 : decode cX4_sleep 22 = .ok (.iload_n 1, 1) := by decide +kernel
theorem dX4_sleep_23 : decode cX4_sleep 23 = .ok (.bipush 8, 2) := by decide +kernel
theorem dX4_sleep_25 : decode cX4_sleep 25 = .ok (.if_icmp .ge 39, 3) := by decide +kernel
theorem dX4_sleep_28 : decode cX4_sleep 28 = .ok (.aload_n 0, 1) := by decide +kernel
theorem dX4_sleep_29 : decode cX4_sleep 29 = .ok (.getfield 19, 3) := by decide +kernel
theorem dX4_sleep_32 : decode cX4_sleep 32 = .ok (.iload_n 1, 1) := by decide +kernel
theorem dX4_sleep_33 : decode cX4_sleep 33 = .ok (.aload_n 0, 1) := by decide +kernel
theorem dX4_sleep_34 : decode cX4_sleep 34 = .ok (.getfield 19, 3) := by decide +kernel
theorem dX4_sleep_37 : decode cX4_sleep 37 = .ok (.iload_n 1, 1) := by decide +kernel
theorem dX4_sleep_38 : decode cX4_sleep 38 = .ok (.iaload, 1) := by decide +kernel
theorem dX4_sleep_39 : decode cX4_sleep 39 = .ok (.bipush 25, 2) := by decide +kernel
theorem dX4_sleep_41 : decode cX4_sleep 41 = .ok (.if_icmp .ge 7, 3) := by decide +kernel
theorem dX4_sleep_44 : decode cX4_sleep 44 = .ok (.iconst 0, 1) := by decide +kernel
theorem dX4_sleep_45 : decode cX4_sleep 45 = .ok (.goto 12, 3) := by decide +kernel
theorem dX4_sleep_48 : decode cX4_sleep 48 = .ok (.aload_n 0, 1) := by decide +kernel
theorem dX4_sleep_49 : decode cX4_sleep 49 = .ok (.getfield 19, 3) := by decide +kernel
theorem dX4_sleep_52 : decode cX4_sleep 52 = .ok (.iload_n 1, 1) := by decide +kernel
theorem dX4_sleep_53 : decode cX4_sleep 53 = .ok (.iaload, 1) := by decide +kernel
theorem dX4_sleep_54 : decode cX4_sleep 54 = .ok (.bipush 25, 2) := by decide +kernel
theorem dX4_sleep_56 : decode cX4_sleep 56 = .ok (.isub, 1) := by decide +kernel
theorem dX4_sleep_57 : decode cX4_sleep 57 = .ok (.iastore, 1) := by decide +kernel
theorem dX4_sleep_58 : decode cX4_sleep 58 = .ok (.iinc 1 1, 3) := by decide +kernel
theorem dX4_sleep_61 : decode cX4_sleep 61 = .ok (.goto (-39), 3) := by decide +kernel
theorem dX4_sleep_64 : decode cX4_sleep 64 = .ok (.aload_n 0, 1) := by decide +kernel
theorem dX4_sleep_65 : decode cX4_sleep 65 = .ok (.getfield 130, 3) := by decide +kernel
theorem dX4_sleep_68 : decode cX4_sleep 68 = .ok (.ireturn, 1) := by decide +kernel
theorem dJx00060_init_a7421_0 : decode cJx00060_init_a7421 0 = .ok (.aload_n 0, 1) := by decide +kernel
theorem dJx00060_init_a7421_1 : decode cJx00060_init_a7421 1 = .ok (.aload_n 1, 1) := by decide +kernel
theorem dJx00060_init_a7421_2 : decode cJx00060_init_a7421 2 = .ok (.invokespecial 7, 3) := by decide +kernel
theorem dJx00060_init_a7421_5 : decode cJx00060_init_a7421 5 = .ok (.return_, 1) := by decide +kernel
theorem dJ9_abs_0f7a4_0 : decode cJ9_abs_0f7a4 0 = .ok (.iload_n 0, 1) := by decide +kernel
theorem dJ9_abs_0f7a4_1 : decode cJ9_abs_0f7a4 1 = .ok (.ifCond .ge 8, 3) := by decide +kernel
theorem dJ9_abs_0f7a4_4 : decode cJ9_abs_0f7a4 4 = .ok (.iload_n 0, 1) := by decide +kernel
theorem dJ9_abs_0f7a4_5 : decode cJ9_abs_0f7a4 5 = .ok (.ineg, 1) := by decide +kernel
theorem dJ9_abs_0f7a4_6 : decode cJ9_abs_0f7a4 6 = .ok (.goto 4, 3) := by decide +kernel
theorem dJ9_abs_0f7a4_9 : decode cJ9_abs_0f7a4 9 = .ok (.iload_n 0, 1) := by decide +kernel
theorem dJ9_abs_0f7a4_10 : decode cJ9_abs_0f7a4 10 = .ok (.ireturn, 1) := by decide +kernel
theorem dJ9_max_7cf53_0 : decode cJ9_max_7cf53 0 = .ok (.iload_n 0, 1) := by decide +kernel
theorem dJ9_max_7cf53_1 : decode cJ9_max_7cf53 1 = .ok (.iload_n 1, 1) := by decide +kernel
theorem dJ9_max_7cf53_2 : decode cJ9_max_7cf53 2 = .ok (.if_icmp .lt 7, 3) := by decide +kernel
theorem dJ9_max_7cf53_5 : decode cJ9_max_7cf53 5 = .ok (.iload_n 0, 1) := by decide +kernel
theorem dJ9_max_7cf53_6 : decode cJ9_max_7cf53 6 = .ok (.goto 4, 3) := by decide +kernel
theorem dJ9_max_7cf53_9 : decode cJ9_max_7cf53 9 = .ok (.iload_n 1, 1) := by decide +kernel
theorem dJ9_max_7cf53_10 : decode cJ9_max_7cf53 10 = .ok (.ireturn, 1) := by decide +kernel
theorem dJ9_min_7cf53_0 : decode cJ9_min_7cf53 0 = .ok (.iload_n 0, 1) := by decide +kernel
theorem dJ9_min_7cf53_1 : decode cJ9_min_7cf53 1 = .ok (.iload_n 1, 1) := by decide +kernel
theorem dJ9_min_7cf53_2 : decode cJ9_min_7cf53 2 = .ok (.if_icmp .gt 7, 3) := by decide +kernel
theorem dJ9_min_7cf53_5 : decode cJ9_min_7cf53 5 = .ok (.iload_n 0, 1) := by decide +kernel
theorem dJ9_min_7cf53_6 : decode cJ9_min_7cf53 6 = .ok (.goto 4, 3) := by decide +kernel
theorem dJ9_min_7cf53_9 : decode cJ9_min_7cf53 9 = .ok (.iload_n 1, 1) := by decide +kernel
theorem dJ9_min_7cf53_10 : decode cJ9_min_7cf53 10 = .ok (.ireturn, 1) := by decide +kernel
theorem dJxa1e45_init_da8c8_0 : decode cJxa1e45_init_da8c8 0 = .ok (.aload_n 0, 1) := by decide +kernel
theorem dJxa1e45_init_da8c8_1 : decode cJxa1e45_init_da8c8 1 = .ok (.invokespecial 1, 3) := by decide +kernel
theorem dJxa1e45_init_da8c8_4 : decode cJxa1e45_init_da8c8 4 = .ok (.return_, 1) := by decide +kernel
theorem dJxc12de_init_da8c8_0 : decode cJxc12de_init_da8c8 0 = .ok (.aload_n 0, 1) := by decide +kernel
theorem dJxc12de_init_da8c8_1 : decode cJxc12de_init_da8c8 1 = .ok (.invokespecial 1, 3) := by decide +kernel
theorem dJxc12de_init_da8c8_4 : decode cJxc12de_init_da8c8 4 = .ok (.aload_n 0, 1) := by decide +kernel
theorem dJxc12de_init_da8c8_5 : decode cJxc12de_init_da8c8 5 = .ok (.iconst 0, 1) := by decide +kernel
theorem dJxc12de_init_da8c8_6 : decode cJxc12de_init_da8c8 6 = .ok (.putfield 7, 3) := by decide +kernel
theorem dJxc12de_init_da8c8_9 : decode cJxc12de_init_da8c8 9 = .ok (.return_, 1) := by decide +kernel
theorem dJx4a65c_init_da8c8_0 : decode cJx4a65c_init_da8c8 0 = .ok (.aload_n 0, 1) := by decide +kernel
theorem dJx4a65c_init_da8c8_1 : decode cJx4a65c_init_da8c8 1 = .ok (.invokespecial 1, 3) := by decide +kernel
theorem dJx4a65c_init_da8c8_4 : decode cJx4a65c_init_da8c8 4 = .ok (.aload_n 0, 1) := by decide +kernel
theorem dJx4a65c_init_da8c8_5 : decode cJx4a65c_init_da8c8 5 = .ok (.getstatic 39, 3) := by decide +kernel
theorem dJx4a65c_init_da8c8_8 : decode cJx4a65c_init_da8c8 8 = .ok (.putfield 9, 3) := by decide +kernel
theorem dJx4a65c_init_da8c8_11 : decode cJx4a65c_init_da8c8 11 = .ok (.return_, 1) := by decide +kernel
theorem dJx4a65c_grow_92f84_0 : decode cJx4a65c_grow_92f84 0 = .ok (.aload_n 0, 1) := by decide +kernel
theorem dJx4a65c_grow_92f84_1 : decode cJx4a65c_grow_92f84 1 = .ok (.getfield 9, 3) := by decide +kernel
theorem dJx4a65c_grow_92f84_4 : decode cJx4a65c_grow_92f84 4 = .ok (.arraylength, 1) := by decide +kernel
theorem dJx4a65c_grow_92f84_5 : decode cJx4a65c_grow_92f84 5 = .ok (.istore_n 2, 1) := by decide +kernel
theorem dJx4a65c_grow_92f84_6 : decode cJx4a65c_grow_92f84 6 = .ok (.iload_n 2, 1) := by decide +kernel
theorem dJx4a65c_grow_92f84_7 : decode cJx4a65c_grow_92f84 7 = .ok (.ifCond .gt 13, 3) := by decide +kernel
theorem dJx4a65c_grow_92f84_10 : decode cJx4a65c_grow_92f84 10 = .ok (.aload_n 0, 1) := by decide +kernel
theorem dJx4a65c_grow_92f84_11 : decode cJx4a65c_grow_92f84 11 = .ok (.getfield 9, 3) := by decide +kernel
theorem dJx4a65c_grow_92f84_14 : decode cJx4a65c_grow_92f84 14 = .ok (.getstatic 39, 3) := by decide +kernel
theorem dJx4a65c_grow_92f84_17 : decode cJx4a65c_grow_92f84 17 = .ok (.if_acmp .eq 28, 3) := by decide +kernel
theorem dJx4a65c_grow_92f84_20 : decode cJx4a65c_grow_92f84 20 = .ok (.iload_n 2, 1) := by decide +kernel
theorem dJx4a65c_grow_92f84_21 : decode cJx4a65c_grow_92f84 21 = .ok (.iload_n 1, 1) := by decide +kernel
theorem dJx4a65c_grow_92f84_22 : decode cJx4a65c_grow_92f84 22 = .ok (.iload_n 2, 1) := by decide +kernel
theorem dJx4a65c_grow_92f84_23 : decode cJx4a65c_grow_92f84 23 = .ok (.isub, 1) := by decide +kernel
theorem dJx4a65c_grow_92f84_24 : decode cJx4a65c_grow_92f84 24 = .ok (.iload_n 2, 1) := by decide +kernel
theorem dJx4a65c_grow_92f84_25 : decode cJx4a65c_grow_92f84 25 = .ok (.iconst 1, 1) := by decide +kernel
theorem dJx4a65c_grow_92f84_26 : decode cJx4a65c_grow_92f84 26 = .ok (.ishr, 1) := by decide +kernel
theorem dJx4a65c_grow_92f84_27 : decode cJx4a65c_grow_92f84 27 = .ok (.invokestatic 73, 3) := by decide +kernel
theorem dJx4a65c_grow_92f84_30 : decode cJx4a65c_grow_92f84 30 = .ok (.istore_n 3, 1) := by decide +kernel
theorem dJx4a65c_grow_92f84_31 : decode cJx4a65c_grow_92f84 31 = .ok (.aload_n 0, 1) := by decide +kernel
theorem dJx4a65c_grow_92f84_32 : decode cJx4a65c_grow_92f84 32 = .ok (.aload_n 0, 1) := by decide +kernel
theorem dJx4a65c_grow_92f84_33 : decode cJx4a65c_grow_92f84 33 = .ok (.getfield 9, 3) := by decide +kernel
theorem dJx4a65c_grow_92f84_36 : decode cJx4a65c_grow_92f84 36 = .ok (.iload_n 3, 1) := by decide +kernel
theorem dJx4a65c_grow_92f84_37 : decode cJx4a65c_grow_92f84 37 = .ok (.invokestatic 66, 3) := by decide +kernel
theorem dJx4a65c_grow_92f84_40 : decode cJx4a65c_grow_92f84 40 = .ok (.dup_x1, 1) := by decide +kernel
theorem dJx4a65c_grow_92f84_41 : decode cJx4a65c_grow_92f84 41 = .ok (.putfield 9, 3) := by decide +kernel
theorem dJx4a65c_grow_92f84_44 : decode cJx4a65c_grow_92f84 44 = .ok (.areturn, 1) := by decide +kernel
theorem dJx4a65c_grow_92f84_45 : decode cJx4a65c_grow_92f84 45 = .ok (.aload_n 0, 1) := by decide +kernel
theorem dJx4a65c_grow_92f84_46 : decode cJx4a65c_grow_92f84 46 = .ok (.bipush 10, 2) := by decide +kernel
theorem dJx4a65c_grow_92f84_48 : decode cJx4a65c_grow_92f84 48 = .ok (.iload_n 1, 1) := by decide +kernel
theorem dJx4a65c_grow_92f84_49 : decode cJx4a65c_grow_92f84 49 = .ok (.invokestatic 79, 3) := by decide +kernel
theorem dJx4a65c_grow_92f84_52 : decode cJx4a65c_grow_92f84 52 = .ok (.anewarray 7, 3) := by decide +kernel
theorem dJx4a65c_grow_92f84_55 : decode cJx4a65c_grow_92f84 55 = .ok (.dup_x1, 1) := by decide +kernel
theorem dJx4a65c_grow_92f84_56 : decode cJx4a65c_grow_92f84 56 = .ok (.putfield 9, 3) := by decide +kernel
theorem dJx4a65c_grow_92f84_59 : decode cJx4a65c_grow_92f84 59 = .ok (.areturn, 1) := by decide +kernel
theorem dJx4a65c_grow_d5877_0 : decode cJx4a65c_grow_d5877 0 = .ok (.aload_n 0, 1) := by decide +kernel
theorem dJx4a65c_grow_d5877_1 : decode cJx4a65c_grow_d5877 1 = .ok (.aload_n 0, 1) := by decide +kernel
theorem dJx4a65c_grow_d5877_2 : decode cJx4a65c_grow_d5877 2 = .ok (.getfield 48, 3) := by decide +kernel
theorem dJx4a65c_grow_d5877_5 : decode cJx4a65c_grow_d5877 5 = .ok (.iconst 1, 1) := by decide +kernel
theorem dJx4a65c_grow_d5877_6 : decode cJx4a65c_grow_d5877 6 = .ok (.iadd, 1) := by decide +kernel
theorem dJx4a65c_grow_d5877_7 : decode cJx4a65c_grow_d5877 7 = .ok (.invokevirtual 69, 3) := by decide +kernel
theorem dJx4a65c_grow_d5877_10 : decode cJx4a65c_grow_d5877 10 = .ok (.areturn, 1) := by decide +kernel
theorem dJx4a65c_size_8abf5_0 : decode cJx4a65c_size_8abf5 0 = .ok (.aload_n 0, 1) := by decide +kernel
theorem dJx4a65c_size_8abf5_1 : decode cJx4a65c_size_8abf5 1 = .ok (.getfield 48, 3) := by decide +kernel
theorem dJx4a65c_size_8abf5_4 : decode cJx4a65c_size_8abf5 4 = .ok (.ireturn, 1) := by decide +kernel
theorem dJx4a65c_elementData_915e3_0 : decode cJx4a65c_elementData_915e3 0 = .ok (.aload_n 0, 1) := by decide +kernel
theorem dJx4a65c_elementData_915e3_1 : decode cJx4a65c_elementData_915e3 1 = .ok (.getfield 9, 3) := by decide +kernel
theorem dJx4a65c_elementData_915e3_4 : decode cJx4a65c_elementData_915e3 4 = .ok (.iload_n 1, 1) := by decide +kernel
theorem dJx4a65c_elementData_915e3_5 : decode cJx4a65c_elementData_915e3 5 = .ok (.aaload, 1) := by decide +kernel
theorem dJx4a65c_elementData_915e3_6 : decode cJx4a65c_elementData_915e3 6 = .ok (.areturn, 1) := by decide +kernel
theorem dJx4a65c_get_915e3_0 : decode cJx4a65c_get_915e3 0 = .ok (.iload_n 1, 1) := by decide +kernel
theorem dJx4a65c_get_915e3_1 : decode cJx4a65c_get_915e3 1 = .ok (.aload_n 0, 1) := by decide +kernel
theorem dJx4a65c_get_915e3_2 : decode cJx4a65c_get_915e3 2 = .ok (.getfield 48, 3) := by decide +kernel
theorem dJx4a65c_get_915e3_5 : decode cJx4a65c_get_915e3 5 = .ok (.invokestatic 118, 3) := by decide +kernel
theorem dJx4a65c_get_915e3_8 : decode cJx4a65c_get_915e3 8 = .ok (.pop, 1) := by decide +kernel
theorem dJx4a65c_get_915e3_9 : decode cJx4a65c_get_915e3 9 = .ok (.aload_n 0, 1) := by decide +kernel
theorem dJx4a65c_get_915e3_10 : decode cJx4a65c_get_915e3 10 = .ok (.iload_n 1, 1) := by decide +kernel
theorem dJx4a65c_get_915e3_11 : decode cJx4a65c_get_915e3 11 = .ok (.invokevirtual 123, 3) := by decide +kernel
theorem dJx4a65c_get_915e3_14 : decode cJx4a65c_get_915e3 14 = .ok (.areturn, 1) := by decide +kernel
theorem dJx4a65c_add_72be8_0 : decode cJx4a65c_add_72be8 0 = .ok (.iload_n 3, 1) := by decide +kernel
theorem dJx4a65c_add_72be8_1 : decode cJx4a65c_add_72be8 1 = .ok (.aload_n 2, 1) := by decide +kernel
theorem dJx4a65c_add_72be8_2 : decode cJx4a65c_add_72be8 2 = .ok (.arraylength, 1) := by decide +kernel
theorem dJx4a65c_add_72be8_3 : decode cJx4a65c_add_72be8 3 = .ok (.if_icmp .ne 8, 3) := by decide +kernel
theorem dJx4a65c_add_72be8_6 : decode cJx4a65c_add_72be8 6 = .ok (.aload_n 0, 1) := by decide +kernel
theorem dJx4a65c_add_72be8_7 : decode cJx4a65c_add_72be8 7 = .ok (.invokevirtual 129, 3) := by decide +kernel
theorem dJx4a65c_add_72be8_10 : decode cJx4a65c_add_72be8 10 = .ok (.astore_n 2, 1) := by decide +kernel
theorem dJx4a65c_add_72be8_11 : decode cJx4a65c_add_72be8 11 = .ok (.aload_n 2, 1) := by decide +kernel
theorem dJx4a65c_add_72be8_12 : decode cJx4a65c_add_72be8 12 = .ok (.iload_n 3, 1) := by decide +kernel
theorem dJx4a65c_add_72be8_13 : decode cJx4a65c_add_72be8 13 = .ok (.aload_n 1, 1) := by decide +kernel
theorem dJx4a65c_add_72be8_14 : decode cJx4a65c_add_72be8 14 = .ok (.aastore, 1) := by decide +kernel
theorem dJx4a65c_add_72be8_15 : decode cJx4a65c_add_72be8 15 = .ok (.aload_n 0, 1) := by decide +kernel
theorem dJx4a65c_add_72be8_16 : decode cJx4a65c_add_72be8 16 = .ok (.iload_n 3, 1) := by decide +kernel
theorem dJx4a65c_add_72be8_17 : decode cJx4a65c_add_72be8 17 = .ok (.iconst 1, 1) := by decide +kernel
theorem dJx4a65c_add_72be8_18 : decode cJx4a65c_add_72be8 18 = .ok (.iadd, 1) := by decide +kernel
theorem dJx4a65c_add_72be8_19 : decode cJx4a65c_add_72be8 19 = .ok (.putfield 48, 3) := by decide +kernel
theorem dJx4a65c_add_72be8_22 : decode cJx4a65c_add_72be8 22 = .ok (.return_, 1) := by decide +kernel
theorem dJx4a65c_add_9ea2d_0 : decode cJx4a65c_add_9ea2d 0 = .ok (.aload_n 0, 1) := by decide +kernel
theorem dJx4a65c_add_9ea2d_1 : decode cJx4a65c_add_9ea2d 1 = .ok (.dup, 1) := by decide +kernel
theorem dJx4a65c_add_9ea2d_2 : decode cJx4a65c_add_9ea2d 2 = .ok (.getfield 63, 3) := by decide +kernel
theorem dJx4a65c_add_9ea2d_5 : decode cJx4a65c_add_9ea2d 5 = .ok (.iconst 1, 1) := by decide +kernel
theorem dJx4a65c_add_9ea2d_6 : decode cJx4a65c_add_9ea2d 6 = .ok (.iadd, 1) := by decide +kernel
theorem dJx4a65c_add_9ea2d_7 : decode cJx4a65c_add_9ea2d 7 = .ok (.putfield 63, 3) := by decide +kernel
theorem dJx4a65c_add_9ea2d_10 : decode cJx4a65c_add_9ea2d 10 = .ok (.aload_n 0, 1) := by decide +kernel
theorem dJx4a65c_add_9ea2d_11 : decode cJx4a65c_add_9ea2d 11 = .ok (.aload_n 1, 1) := by decide +kernel
theorem dJx4a65c_add_9ea2d_12 : decode cJx4a65c_add_9ea2d 12 = .ok (.aload_n 0, 1) := by decide +kernel
theorem dJx4a65c_add_9ea2d_13 : decode cJx4a65c_add_9ea2d 13 = .ok (.getfield 9, 3) := by decide +kernel
theorem dJx4a65c_add_9ea2d_16 : decode cJx4a65c_add_9ea2d 16 = .ok (.aload_n 0, 1) := by decide +kernel
theorem dJx4a65c_add_9ea2d_17 : decode cJx4a65c_add_9ea2d 17 = .ok (.getfield 48, 3) := by decide +kernel
theorem dJx4a65c_add_9ea2d_20 : decode cJx4a65c_add_9ea2d 20 = .ok (.invokevirtual 131, 3) := by decide +kernel
theorem dJx4a65c_add_9ea2d_23 : decode cJx4a65c_add_9ea2d 23 = .ok (.iconst 1, 1) := by decide +kernel
theorem dJx4a65c_add_9ea2d_24 : decode cJx4a65c_add_9ea2d 24 = .ok (.ireturn, 1) := by decide +kernel
theorem dJ7_fill_53178_0 : decode cJ7_fill_53178 0 = .ok (.iconst 0, 1) := by decide +kernel
theorem dJ7_fill_53178_1 : decode cJ7_fill_53178 1 = .ok (.istore_n 2, 1) := by decide +kernel
theorem dJ7_fill_53178_2 : decode cJ7_fill_53178 2 = .ok (.aload_n 0, 1) := by decide +kernel
theorem dJ7_fill_53178_3 : decode cJ7_fill_53178 3 = .ok (.arraylength, 1) := by decide +kernel
theorem dJ7_fill_53178_4 : decode cJ7_fill_53178 4 = .ok (.istore_n 3, 1) := by decide +kernel
theorem dJ7_fill_53178_5 : decode cJ7_fill_53178 5 = .ok (.iload_n 2, 1) := by decide +kernel
theorem dJ7_fill_53178_6 : decode cJ7_fill_53178 6 = .ok (.iload_n 3, 1) := by decide +kernel
theorem dJ7_fill_53178_7 : decode cJ7_fill_53178 7 = .ok (.if_icmp .ge 13, 3) := by decide +kernel
theorem dJ7_fill_53178_10 : decode cJ7_fill_53178 10 = .ok (.aload_n 0, 1) := by decide +kernel
theorem dJ7_fill_53178_11 : decode cJ7_fill_53178 11 = .ok (.iload_n 2, 1) := by decide +kernel
theorem dJ7_fill_53178_12 : decode cJ7_fill_53178 12 = .ok (.iload_n 1, 1) := by decide +kernel
theorem dJ7_fill_53178_13 : decode cJ7_fill_53178 13 = .ok (.iastore, 1) := by decide +kernel
theorem dJ7_fill_53178_14 : decode cJ7_fill_53178 14 = .ok (.iinc 2 1, 3) := by decide +kernel
theorem dJ7_fill_53178_17 : decode cJ7_fill_53178 17 = .ok (.goto (-12), 3) := by decide +kernel
theorem dJ7_fill_53178_20 : decode cJ7_fill_53178 20 = .ok (.return_, 1) := by decide +kernel
theorem dJ7_copyOf_1904c_0 : decode cJ7_copyOf_1904c 0 = .ok (.aload_n 0, 1) := by decide +kernel
theorem dJ7_copyOf_1904c_1 : decode cJ7_copyOf_1904c 1 = .ok (.iload_n 1, 1) := by decide +kernel
theorem dJ7_copyOf_1904c_2 : decode cJ7_copyOf_1904c 2 = .ok (.aload_n 0, 1) := by decide +kernel
theorem dJ7_copyOf_1904c_3 : decode cJ7_copyOf_1904c 3 = .ok (.invokevirtual 86, 3) := by decide +kernel
theorem dJ7_copyOf_1904c_6 : decode cJ7_copyOf_1904c 6 = .ok (.invokestatic 300, 3) := by decide +kernel
theorem dJ7_copyOf_1904c_9 : decode cJ7_copyOf_1904c 9 = .ok (.areturn, 1) := by decide +kernel
theorem dJ7_copyOf_6403c_0 : decode cJ7_copyOf_6403c 0 = .ok (.aload_n 2, 1) := by decide +kernel
theorem dJ7_copyOf_6403c_1 : decode cJ7_copyOf_6403c 1 = .ok (.ldc 110, 2) := by decide +kernel
theorem dJ7_copyOf_6403c_3 : decode cJ7_copyOf_6403c 3 = .ok (.if_acmp .ne 10, 3) := by decide +kernel
theorem dJ7_copyOf_6403c_6 : decode cJ7_copyOf_6403c 6 = .ok (.iload_n 1, 1) := by decide +kernel
theorem dJ7_copyOf_6403c_7 : decode cJ7_copyOf_6403c 7 = .ok (.anewarray 2, 3) := by decide +kernel
theorem dJ7_copyOf_6403c_10 : decode cJ7_copyOf_6403c 10 = .ok (.goto 14, 3) := by decide +kernel
theorem dJ7_copyOf_6403c_13 : decode cJ7_copyOf_6403c 13 = .ok (.aload_n 2, 1) := by decide +kernel
theorem dJ7_copyOf_6403c_14 : decode cJ7_copyOf_6403c 14 = .ok (.invokevirtual 90, 3) := by decide +kernel
theorem dJ7_copyOf_6403c_17 : decode cJ7_copyOf_6403c 17 = .ok (.iload_n 1, 1) := by decide +kernel
theorem dJ7_copyOf_6403c_18 : decode cJ7_copyOf_6403c 18 = .ok (.invokestatic 95, 3) := by decide +kernel
theorem dJ7_copyOf_6403c_21 : decode cJ7_copyOf_6403c 21 = .ok (.checkcast 110, 3) := by decide +kernel
theorem dJ7_copyOf_6403c_24 : decode cJ7_copyOf_6403c 24 = .ok (.astore_n 3, 1) := by decide +kernel
theorem dJ7_copyOf_6403c_25 : decode cJ7_copyOf_6403c 25 = .ok (.aload_n 0, 1) := by decide +kernel
theorem dJ7_copyOf_6403c_26 : decode cJ7_copyOf_6403c 26 = .ok (.iconst 0, 1) := by decide +kernel
theorem dJ7_copyOf_6403c_27 : decode cJ7_copyOf_6403c 27 = .ok (.aload_n 3, 1) := by decide +kernel
theorem dJ7_copyOf_6403c_28 : decode cJ7_copyOf_6403c 28 = .ok (.iconst 0, 1) := by decide +kernel
theorem dJ7_copyOf_6403c_29 : decode cJ7_copyOf_6403c 29 = .ok (.aload_n 0, 1) := by decide +kernel
theorem dJ7_copyOf_6403c_30 : decode cJ7_copyOf_6403c 30 = .ok (.arraylength, 1) := by decide +kernel
theorem dJ7_copyOf_6403c_31 : decode cJ7_copyOf_6403c 31 = .ok (.iload_n 1, 1) := by decide +kernel
theorem dJ7_copyOf_6403c_32 : decode cJ7_copyOf_6403c 32 = .ok (.invokestatic 304, 3) := by decide +kernel
theorem dJ7_copyOf_6403c_35 : decode cJ7_copyOf_6403c 35 = .ok (.invokestatic 150, 3) := by decide +kernel
theorem dJ7_copyOf_6403c_38 : decode cJ7_copyOf_6403c 38 = .ok (.aload_n 3, 1) := by decide +kernel
theorem dJ7_copyOf_6403c_39 : decode cJ7_copyOf_6403c 39 = .ok (.areturn, 1) := by decide +kernel
theorem dJ15_checkIndex_7cf53_0 : decode cJ15_checkIndex_7cf53 0 = .ok (.iload_n 0, 1) := by decide +kernel
theorem dJ15_checkIndex_7cf53_1 : decode cJ15_checkIndex_7cf53 1 = .ok (.iload_n 1, 1) := by decide +kernel
theorem dJ15_checkIndex_7cf53_2 : decode cJ15_checkIndex_7cf53 2 = .ok (.aconst_null, 1) := by decide +kernel
theorem dJ15_checkIndex_7cf53_3 : decode cJ15_checkIndex_7cf53 3 = .ok (.invokestatic 105, 3) := by decide +kernel
theorem dJ15_checkIndex_7cf53_6 : decode cJ15_checkIndex_7cf53 6 = .ok (.ireturn, 1) := by decide +kernel
theorem dJ8_newLength_cabcc_0 : decode cJ8_newLength_cabcc 0 = .ok (.iload_n 0, 1) := by decide +kernel
theorem dJ8_newLength_cabcc_1 : decode cJ8_newLength_cabcc 1 = .ok (.iload_n 1, 1) := by decide +kernel
theorem dJ8_newLength_cabcc_2 : decode cJ8_newLength_cabcc 2 = .ok (.iload_n 2, 1) := by decide +kernel
theorem dJ8_newLength_cabcc_3 : decode cJ8_newLength_cabcc 3 = .ok (.invokestatic 194, 3) := by decide +kernel
theorem dJ8_newLength_cabcc_6 : decode cJ8_newLength_cabcc 6 = .ok (.iadd, 1) := by decide +kernel
theorem dJ8_newLength_cabcc_7 : decode cJ8_newLength_cabcc 7 = .ok (.istore_n 3, 1) := by decide +kernel
theorem dJ8_newLength_cabcc_8 : decode cJ8_newLength_cabcc 8 = .ok (.iconst 0, 1) := by decide +kernel
theorem dJ8_newLength_cabcc_9 : decode cJ8_newLength_cabcc 9 = .ok (.iload_n 3, 1) := by decide +kernel
theorem dJ8_newLength_cabcc_10 : decode cJ8_newLength_cabcc 10 = .ok (.if_icmp .ge 11, 3) := by decide +kernel
theorem dJ8_newLength_cabcc_13 : decode cJ8_newLength_cabcc 13 = .ok (.iload_n 3, 1) := by decide +kernel
theorem dJ8_newLength_cabcc_14 : decode cJ8_newLength_cabcc 14 = .ok (.ldc 200, 2) := by decide +kernel
theorem dJ8_newLength_cabcc_16 : decode cJ8_newLength_cabcc 16 = .ok (.if_icmp .gt 5, 3) := by decide +kernel
theorem dJ8_newLength_cabcc_19 : decode cJ8_newLength_cabcc 19 = .ok (.iload_n 3, 1) := by decide +kernel
theorem dJ8_newLength_cabcc_20 : decode cJ8_newLength_cabcc 20 = .ok (.ireturn, 1) := by decide +kernel
theorem dJ8_newLength_cabcc_21 : decode cJ8_newLength_cabcc 21 = .ok (.iload_n 0, 1) := by decide +kernel
theorem dJ8_newLength_cabcc_22 : decode cJ8_newLength_cabcc 22 = .ok (.iload_n 1, 1) := by decide +kernel
theorem dJ8_newLength_cabcc_23 : decode cJ8_newLength_cabcc 23 = .ok (.invokestatic 201, 3) := by decide +kernel
theorem dJ8_newLength_cabcc_26 : decode cJ8_newLength_cabcc 26 = .ok (.ireturn, 1) := by decide +kernel
theorem dJ8_hugeLength_7cf53_0 : decode cJ8_hugeLength_7cf53 0 = .ok (.iload_n 0, 1) := by decide +kernel
theorem dJ8_hugeLength_7cf53_1 : decode cJ8_hugeLength_7cf53 1 = .ok (.iload_n 1, 1) := by decide +kernel
theorem dJ8_hugeLength_7cf53_2 : decode cJ8_hugeLength_7cf53 2 = .ok (.iadd, 1) := by decide +kernel
theorem dJ8_hugeLength_7cf53_3 : decode cJ8_hugeLength_7cf53 3 = .ok (.istore_n 2, 1) := by decide +kernel
theorem dJ8_hugeLength_7cf53_4 : decode cJ8_hugeLength_7cf53 4 = .ok (.iload_n 2, 1) := by decide +kernel
theorem dJ8_hugeLength_7cf53_5 : decode cJ8_hugeLength_7cf53 5 = .ok (.ifCond .ge 44, 3) := by decide +kernel
theorem dJ8_hugeLength_7cf53_8 : decode cJ8_hugeLength_7cf53 8 = .ok (.new 204, 3) := by decide +kernel
theorem dJ8_hugeLength_7cf53_11 : decode cJ8_hugeLength_7cf53 11 = .ok (.dup, 1) := by decide +kernel
theorem dJ8_hugeLength_7cf53_12 : decode cJ8_hugeLength_7cf53 12 = .ok (.new 89, 3) := by decide +kernel
theorem dJ8_hugeLength_7cf53_15 : decode cJ8_hugeLength_7cf53 15 = .ok (.dup, 1) := by decide +kernel
theorem dJ8_hugeLength_7cf53_16 : decode cJ8_hugeLength_7cf53 16 = .ok (.invokespecial 91, 3) := by decide +kernel
theorem dJ8_hugeLength_7cf53_19 : decode cJ8_hugeLength_7cf53 19 = .ok (.ldc 206, 2) := by decide +kernel
theorem dJ8_hugeLength_7cf53_21 : decode cJ8_hugeLength_7cf53 21 = .ok (.invokevirtual 94, 3) := by decide +kernel
theorem dJ8_hugeLength_7cf53_24 : decode cJ8_hugeLength_7cf53 24 = .ok (.iload_n 0, 1) := by decide +kernel
theorem dJ8_hugeLength_7cf53_25 : decode cJ8_hugeLength_7cf53 25 = .ok (.invokevirtual 98, 3) := by decide +kernel
theorem dJ8_hugeLength_7cf53_28 : decode cJ8_hugeLength_7cf53 28 = .ok (.ldc 208, 2) := by decide +kernel
theorem dJ8_hugeLength_7cf53_30 : decode cJ8_hugeLength_7cf53 30 = .ok (.invokevirtual 94, 3) := by decide +kernel
theorem dJ8_hugeLength_7cf53_33 : decode cJ8_hugeLength_7cf53 33 = .ok (.iload_n 1, 1) := by decide +kernel
theorem dJ8_hugeLength_7cf53_34 : decode cJ8_hugeLength_7cf53 34 = .ok (.invokevirtual 98, 3) := by decide +kernel
theorem dJ8_hugeLength_7cf53_37 : decode cJ8_hugeLength_7cf53 37 = .ok (.ldc 210, 2) := by decide +kernel
theorem dJ8_hugeLength_7cf53_39 : decode cJ8_hugeLength_7cf53 39 = .ok (.invokevirtual 94, 3) := by decide +kernel
theorem dJ8_hugeLength_7cf53_42 : decode cJ8_hugeLength_7cf53 42 = .ok (.invokevirtual 101, 3) := by decide +kernel
theorem dJ8_hugeLength_7cf53_45 : decode cJ8_hugeLength_7cf53 45 = .ok (.invokespecial 212, 3) := by decide +kernel
theorem dJ8_hugeLength_7cf53_48 : decode cJ8_hugeLength_7cf53 48 = .ok (.athrow, 1) := by decide +kernel
theorem dJ8_hugeLength_7cf53_49 : decode cJ8_hugeLength_7cf53 49 = .ok (.iload_n 2, 1) := by decide +kernel
theorem dJ8_hugeLength_7cf53_50 : decode cJ8_hugeLength_7cf53 50 = .ok (.ldc 200, 2) := by decide +kernel
theorem dJ8_hugeLength_7cf53_52 : decode cJ8_hugeLength_7cf53 52 = .ok (.if_icmp .gt 6, 3) := by decide +kernel
theorem dJ8_hugeLength_7cf53_55 : decode cJ8_hugeLength_7cf53 55 = .ok (.ldc 200, 2) := by decide +kernel
theorem dJ8_hugeLength_7cf53_57 : decode cJ8_hugeLength_7cf53 57 = .ok (.ireturn, 1) := by decide +kernel
theorem dJ8_hugeLength_7cf53_58 : decode cJ8_hugeLength_7cf53 58 = .ok (.iload_n 2, 1) := by decide +kernel
theorem dJ8_hugeLength_7cf53_59 : decode cJ8_hugeLength_7cf53 59 = .ok (.ireturn, 1) := by decide +kernel
theorem dJ3_checkIndex_8e157_0 : decode cJ3_checkIndex_8e157 0 = .ok (.iload_n 0, 1) := by decide +kernel
theorem dJ3_checkIndex_8e157_1 : decode cJ3_checkIndex_8e157 1 = .ok (.ifCond .lt 8, 3) := by decide +kernel
theorem dJ3_checkIndex_8e157_4 : decode cJ3_checkIndex_8e157 4 = .ok (.iload_n 0, 1) := by decide +kernel
theorem dJ3_checkIndex_8e157_5 : decode cJ3_checkIndex_8e157 5 = .ok (.iload_n 1, 1) := by decide +kernel
theorem dJ3_checkIndex_8e157_6 : decode cJ3_checkIndex_8e157 6 = .ok (.if_icmp .lt 10, 3) := by decide +kernel
theorem dJ3_checkIndex_8e157_9 : decode cJ3_checkIndex_8e157 9 = .ok (.aload_n 2, 1) := by decide +kernel
theorem dJ3_checkIndex_8e157_10 : decode cJ3_checkIndex_8e157 10 = .ok (.iload_n 0, 1) := by decide +kernel
theorem dJ3_checkIndex_8e157_11 : decode cJ3_checkIndex_8e157 11 = .ok (.iload_n 1, 1) := by decide +kernel
theorem dJ3_checkIndex_8e157_12 : decode cJ3_checkIndex_8e157 12 = .ok (.invokestatic 95, 3) := by decide +kernel
theorem dJ3_checkIndex_8e157_15 : decode cJ3_checkIndex_8e157 15 = .ok (.athrow, 1) := by decide +kernel
theorem dJ3_checkIndex_8e157_16 : decode cJ3_checkIndex_8e157 16 = .ok (.iload_n 0, 1) := by decide +kernel
theorem dJ3_checkIndex_8e157_17 : decode cJ3_checkIndex_8e157 17 = .ok (.ireturn, 1) := by decide +kernel
theorem dL_dancer_0 : decode cL_dancer 0 = .ok (.aload_n 3, 1) := by decide +kernel
theorem dL_dancer_1 : decode cL_dancer 1 = .ok (.iconst 0, 1) := by decide +kernel
theorem dL_dancer_2 : decode cL_dancer 2 = .ok (.aload_n 0, 1) := by decide +kernel
theorem dL_dancer_3 : decode cL_dancer 3 = .ok (.iload_n 1, 1) := by decide +kernel
theorem dL_dancer_4 : decode cL_dancer 4 = .ok (.iload_n 2, 1) := by decide +kernel
theorem dL_dancer_5 : decode cL_dancer 5 = .ok (.invokevirtual 7, 3) := by decide +kernel
theorem dL_dancer_8 : decode cL_dancer 8 = .ok (.i2l, 1) := by decide +kernel
theorem dL_dancer_9 : decode cL_dancer 9 = .ok (.lastore, 1) := by decide +kernel
theorem dL_dancer_10 : decode cL_dancer 10 = .ok (.goto 11, 3) := by decide +kernel
theorem dL_dancer_13 : decode cL_dancer 13 = .ok (.astore 4, 2) := by decide +kernel
theorem dL_dancer_15 : decode cL_dancer 15 = .ok (.iconst 1, 1) := by decide +kernel
theorem dL_dancer_16 : decode cL_dancer 16 = .ok (.ireturn, 1) := by decide +kernel
theorem dL_dancer_17 : decode cL_dancer 17 = .ok (.astore 4, 2) := by decide +kernel
theorem dL_dancer_19 : decode cL_dancer 19 = .ok (.iconst 2, 1) := by decide +kernel
theorem dL_dancer_20 : decode cL_dancer 20 = .ok (.ireturn, 1) := by decide +kernel
theorem dL_dancer_21 : decode cL_dancer 21 = .ok (.iconst 0, 1) := by decide +kernel
theorem dL_dancer_22 : decode cL_dancer 22 = .ok (.ireturn, 1) := by decide +kernel
theorem dL_move_0 : decode cL_move 0 = .ok (.aload 5, 2) := by decide +kernel
theorem dL_move_2 : decode cL_move 2 = .ok (.iconst 0, 1) := by decide +kernel
theorem dL_move_3 : decode cL_move 3 = .ok (.aload_n 0, 1) := by decide +kernel
theorem dL_move_4 : decode cL_move 4 = .ok (.iload_n 1, 1) := by decide +kernel
theorem dL_move_5 : decode cL_move 5 = .ok (.iload_n 2, 1) := by decide +kernel
theorem dL_move_6 : decode cL_move 6 = .ok (.iload_n 3, 1) := by decide +kernel
theorem dL_move_7 : decode cL_move 7 = .ok (.iload 4, 2) := by decide +kernel
theorem dL_move_9 : decode cL_move 9 = .ok (.invokevirtual 17, 3) := by decide +kernel
theorem dL_move_12 : decode cL_move 12 = .ok (.i2l, 1) := by decide +kernel
theorem dL_move_13 : decode cL_move 13 = .ok (.lastore, 1) := by decide +kernel
theorem dL_move_14 : decode cL_move 14 = .ok (.goto 15, 3) := by decide +kernel
theorem dL_move_17 : decode cL_move 17 = .ok (.astore 6, 2) := by decide +kernel
theorem dL_move_19 : decode cL_move 19 = .ok (.iconst 1, 1) := by decide +kernel
theorem dL_move_20 : decode cL_move 20 = .ok (.ireturn, 1) := by decide +kernel
theorem dL_move_21 : decode cL_move 21 = .ok (.astore 6, 2) := by decide +kernel
theorem dL_move_23 : decode cL_move 23 = .ok (.iconst 2, 1) := by decide +kernel
theorem dL_move_24 : decode cL_move 24 = .ok (.ireturn, 1) := by decide +kernel
theorem dL_move_25 : decode cL_move 25 = .ok (.astore 6, 2) := by decide +kernel
theorem dL_move_27 : decode cL_move 27 = .ok (.iconst 3, 1) := by decide +kernel
theorem dL_move_28 : decode cL_move 28 = .ok (.ireturn, 1) := by decide +kernel
theorem dL_move_29 : decode cL_move 29 = .ok (.iconst 0, 1) := by decide +kernel
theorem dL_move_30 : decode cL_move 30 = .ok (.ireturn, 1) := by decide +kernel
theorem dL_place_0 : decode cL_place 0 = .ok (.aload 4, 2) := by decide +kernel
theorem dL_place_2 : decode cL_place 2 = .ok (.iconst 0, 1) := by decide +kernel
theorem dL_place_3 : decode cL_place 3 = .ok (.aload_n 0, 1) := by decide +kernel
theorem dL_place_4 : decode cL_place 4 = .ok (.iload_n 1, 1) := by decide +kernel
theorem dL_place_5 : decode cL_place 5 = .ok (.iload_n 2, 1) := by decide +kernel
theorem dL_place_6 : decode cL_place 6 = .ok (.iload_n 3, 1) := by decide +kernel
theorem dL_place_7 : decode cL_place 7 = .ok (.invokevirtual 23, 3) := by decide +kernel
theorem dL_place_10 : decode cL_place 10 = .ok (.i2l, 1) := by decide +kernel
theorem dL_place_11 : decode cL_place 11 = .ok (.lastore, 1) := by decide +kernel
theorem dL_place_12 : decode cL_place 12 = .ok (.goto 7, 3) := by decide +kernel
theorem dL_place_15 : decode cL_place 15 = .ok (.astore 5, 2) := by decide +kernel
theorem dL_place_17 : decode cL_place 17 = .ok (.iconst 1, 1) := by decide +kernel
theorem dL_place_18 : decode cL_place 18 = .ok (.ireturn, 1) := by decide +kernel
theorem dL_place_19 : decode cL_place 19 = .ok (.iconst 0, 1) := by decide +kernel
theorem dL_place_20 : decode cL_place 20 = .ok (.ireturn, 1) := by decide +kernel
theorem dL_placeAnew_0 : decode cL_placeAnew 0 = .ok (.aload 4, 2) := by decide +kernel
theorem dL_placeAnew_2 : decode cL_placeAnew 2 = .ok (.iconst 0, 1) := by decide +kernel
theorem dL_placeAnew_3 : decode cL_placeAnew 3 = .ok (.aload_n 0, 1) := by decide +kernel
theorem dL_placeAnew_4 : decode cL_placeAnew 4 = .ok (.iload_n 1, 1) := by decide +kernel
theorem dL_placeAnew_5 : decode cL_placeAnew 5 = .ok (.iload_n 2, 1) := by decide +kernel
theorem dL_placeAnew_6 : decode cL_placeAnew 6 = .ok (.iload_n 3, 1) := by decide +kernel
theorem dL_placeAnew_7 : decode cL_placeAnew 7 = .ok (.invokevirtual 27, 3) := by decide +kernel
theorem dL_placeAnew_10 : decode cL_placeAnew 10 = .ok (.i2l, 1) := by decide +kernel
theorem dL_placeAnew_11 : decode cL_placeAnew 11 = .ok (.lastore, 1) := by decide +kernel
theorem dL_placeAnew_12 : decode cL_placeAnew 12 = .ok (.goto 7, 3) := by decide +kernel
theorem dL_placeAnew_15 : decode cL_placeAnew 15 = .ok (.astore 5, 2) := by decide +kernel
theorem dL_placeAnew_17 : decode cL_placeAnew 17 = .ok (.iconst 1, 1) := by decide +kernel
theorem dL_placeAnew_18 : decode cL_placeAnew 18 = .ok (.ireturn, 1) := by decide +kernel
theorem dL_placeAnew_19 : decode cL_placeAnew 19 = .ok (.iconst 0, 1) := by decide +kernel
theorem dL_placeAnew_20 : decode cL_placeAnew 20 = .ok (.ireturn, 1) := by decide +kernel
theorem dL_clashes_0 : decode cL_clashes 0 = .ok (.aload_n 2, 1) := by decide +kernel
theorem dL_clashes_1 : decode cL_clashes 1 = .ok (.iconst 0, 1) := by decide +kernel
theorem dL_clashes_2 : decode cL_clashes 2 = .ok (.aload_n 0, 1) := by decide +kernel
theorem dL_clashes_3 : decode cL_clashes 3 = .ok (.iload_n 1, 1) := by decide +kernel
theorem dL_clashes_4 : decode cL_clashes 4 = .ok (.invokevirtual 30, 3) := by decide +kernel
theorem dL_clashes_7 : decode cL_clashes 7 = .ok (.i2l, 1) := by decide +kernel
theorem dL_clashes_8 : decode cL_clashes 8 = .ok (.lastore, 1) := by decide +kernel
theorem dL_clashes_9 : decode cL_clashes 9 = .ok (.goto 6, 3) := by decide +kernel
theorem dL_clashes_12 : decode cL_clashes 12 = .ok (.astore_n 3, 1) := by decide +kernel
theorem dL_clashes_13 : decode cL_clashes 13 = .ok (.iconst 1, 1) := by decide +kernel
theorem dL_clashes_14 : decode cL_clashes 14 = .ok (.ireturn, 1) := by decide +kernel
theorem dL_clashes_15 : decode cL_clashes 15 = .ok (.iconst 0, 1) := by decide +kernel
theorem dL_clashes_16 : decode cL_clashes 16 = .ok (.ireturn, 1) := by decide +kernel
theorem dL_lift_0 : decode cL_lift 0 = .ok (.aload 5, 2) := by decide +kernel
theorem dL_lift_2 : decode cL_lift 2 = .ok (.iconst 0, 1) := by decide +kernel
theorem dL_lift_3 : decode cL_lift 3 = .ok (.aload_n 0, 1) := by decide +kernel
theorem dL_lift_4 : decode cL_lift 4 = .ok (.iload_n 1, 1) := by decide +kernel
theorem dL_lift_5 : decode cL_lift 5 = .ok (.iload_n 2, 1) := by decide +kernel
theorem dL_lift_6 : decode cL_lift 6 = .ok (.iload_n 3, 1) := by decide +kernel
theorem dL_lift_7 : decode cL_lift 7 = .ok (.iload 4, 2) := by decide +kernel
theorem dL_lift_9 : decode cL_lift 9 = .ok (.invokevirtual 34, 3) := by decide +kernel
theorem dL_lift_12 : decode cL_lift 12 = .ok (.i2l, 1) := by decide +kernel
theorem dL_lift_13 : decode cL_lift 13 = .ok (.lastore, 1) := by decide +kernel
theorem dL_lift_14 : decode cL_lift 14 = .ok (.goto 15, 3) := by decide +kernel
theorem dL_lift_17 : decode cL_lift 17 = .ok (.astore 6, 2) := by decide +kernel
theorem dL_lift_19 : decode cL_lift 19 = .ok (.iconst 1, 1) := by decide +kernel
theorem dL_lift_20 : decode cL_lift 20 = .ok (.ireturn, 1) := by decide +kernel
theorem dL_lift_21 : decode cL_lift 21 = .ok (.astore 6, 2) := by decide +kernel
theorem dL_lift_23 : decode cL_lift 23 = .ok (.iconst 2, 1) := by decide +kernel
theorem dL_lift_24 : decode cL_lift 24 = .ok (.ireturn, 1) := by decide +kernel
theorem dL_lift_25 : decode cL_lift 25 = .ok (.astore 6, 2) := by decide +kernel
theorem dL_lift_27 : decode cL_lift 27 = .ok (.iconst 3, 1) := by decide +kernel
theorem dL_lift_28 : decode cL_lift 28 = .ok (.ireturn, 1) := by decide +kernel
theorem dL_lift_29 : decode cL_lift 29 = .ok (.iconst 0, 1) := by decide +kernel
theorem dL_lift_30 : decode cL_lift 30 = .ok (.ireturn, 1) := by decide +kernel
theorem dL_ofLift_0 : decode cL_ofLift 0 = .ok (.aload_n 3, 1) := by decide +kernel
theorem dL_ofLift_1 : decode cL_ofLift 1 = .ok (.iconst 0, 1) := by decide +kernel
theorem dL_ofLift_2 : decode cL_ofLift 2 = .ok (.aload_n 0, 1) := by decide +kernel
theorem dL_ofLift_3 : decode cL_ofLift 3 = .ok (.iload_n 1, 1) := by decide +kernel
theorem dL_ofLift_4 : decode cL_ofLift 4 = .ok (.iload_n 2, 1) := by decide +kernel
theorem dL_ofLift_5 : decode cL_ofLift 5 = .ok (.invokevirtual 37, 3) := by decide +kernel
theorem dL_ofLift_8 : decode cL_ofLift 8 = .ok (.i2l, 1) := by decide +kernel
theorem dL_ofLift_9 : decode cL_ofLift 9 = .ok (.lastore, 1) := by decide +kernel
theorem dL_ofLift_10 : decode cL_ofLift 10 = .ok (.goto 11, 3) := by decide +kernel
theorem dL_ofLift_13 : decode cL_ofLift 13 = .ok (.astore 4, 2) := by decide +kernel
theorem dL_ofLift_15 : decode cL_ofLift 15 = .ok (.iconst 1, 1) := by decide +kernel
theorem dL_ofLift_16 : decode cL_ofLift 16 = .ok (.ireturn, 1) := by decide +kernel
theorem dL_ofLift_17 : decode cL_ofLift 17 = .ok (.astore 4, 2) := by decide +kernel
theorem dL_ofLift_19 : decode cL_ofLift 19 = .ok (.iconst 2, 1) := by decide +kernel
theorem dL_ofLift_20 : decode cL_ofLift 20 = .ok (.ireturn, 1) := by decide +kernel
theorem dL_ofLift_21 : decode cL_ofLift 21 = .ok (.iconst 0, 1) := by decide +kernel
theorem dL_ofLift_22 : decode cL_ofLift 22 = .ok (.ireturn, 1) := by decide +kernel
theorem dL_tempo_0 : decode cL_tempo 0 = .ok (.aload_n 3, 1) := by decide +kernel
theorem dL_tempo_1 : decode cL_tempo 1 = .ok (.iconst 0, 1) := by decide +kernel
theorem dL_tempo_2 : decode cL_tempo 2 = .ok (.aload_n 0, 1) := by decide +kernel
theorem dL_tempo_3 : decode cL_tempo 3 = .ok (.iload_n 1, 1) := by decide +kernel
theorem dL_tempo_4 : decode cL_tempo 4 = .ok (.iload_n 2, 1) := by decide +kernel
theorem dL_tempo_5 : decode cL_tempo 5 = .ok (.invokevirtual 40, 3) := by decide +kernel
theorem dL_tempo_8 : decode cL_tempo 8 = .ok (.i2l, 1) := by decide +kernel
theorem dL_tempo_9 : decode cL_tempo 9 = .ok (.lastore, 1) := by decide +kernel
theorem dL_tempo_10 : decode cL_tempo 10 = .ok (.goto 11, 3) := by decide +kernel
theorem dL_tempo_13 : decode cL_tempo 13 = .ok (.astore 4, 2) := by decide +kernel
theorem dL_tempo_15 : decode cL_tempo 15 = .ok (.iconst 1, 1) := by decide +kernel
theorem dL_tempo_16 : decode cL_tempo 16 = .ok (.ireturn, 1) := by decide +kernel
theorem dL_tempo_17 : decode cL_tempo 17 = .ok (.astore 4, 2) := by decide +kernel
theorem dL_tempo_19 : decode cL_tempo 19 = .ok (.iconst 2, 1) := by decide +kernel
theorem dL_tempo_20 : decode cL_tempo 20 = .ok (.ireturn, 1) := by decide +kernel
theorem dL_tempo_21 : decode cL_tempo 21 = .ok (.iconst 0, 1) := by decide +kernel
theorem dL_tempo_22 : decode cL_tempo 22 = .ok (.ireturn, 1) := by decide +kernel
theorem dL_begins_0 : decode cL_begins 0 = .ok (.aload_n 2, 1) := by decide +kernel
theorem dL_begins_1 : decode cL_begins 1 = .ok (.iconst 0, 1) := by decide +kernel
theorem dL_begins_2 : decode cL_begins 2 = .ok (.aload_n 0, 1) := by decide +kernel
theorem dL_begins_3 : decode cL_begins 3 = .ok (.iload_n 1, 1) := by decide +kernel
theorem dL_begins_4 : decode cL_begins 4 = .ok (.invokevirtual 43, 3) := by decide +kernel
theorem dL_begins_7 : decode cL_begins 7 = .ok (.i2l, 1) := by decide +kernel
theorem dL_begins_8 : decode cL_begins 8 = .ok (.lastore, 1) := by decide +kernel
theorem dL_begins_9 : decode cL_begins 9 = .ok (.goto 9, 3) := by decide +kernel
theorem dL_begins_12 : decode cL_begins 12 = .ok (.astore_n 3, 1) := by decide +kernel
theorem dL_begins_13 : decode cL_begins 13 = .ok (.iconst 1, 1) := by decide +kernel
theorem dL_begins_14 : decode cL_begins 14 = .ok (.ireturn, 1) := by decide +kernel
theorem dL_begins_15 : decode cL_begins 15 = .ok (.astore_n 3, 1) := by decide +kernel
theorem dL_begins_16 : decode cL_begins 16 = .ok (.iconst 2, 1) := by decide +kernel
theorem dL_begins_17 : decode cL_begins 17 = .ok (.ireturn, 1) := by decide +kernel
theorem dL_begins_18 : decode cL_begins 18 = .ok (.iconst 0, 1) := by decide +kernel
theorem dL_begins_19 : decode cL_begins 19 = .ok (.ireturn, 1) := by decide +kernel
theorem dL_rehearse_0 : decode cL_rehearse 0 = .ok (.aload 5, 2) := by decide +kernel
theorem dL_rehearse_2 : decode cL_rehearse 2 = .ok (.iconst 0, 1) := by decide +kernel
theorem dL_rehearse_3 : decode cL_rehearse 3 = .ok (.aload_n 0, 1) := by decide +kernel
theorem dL_rehearse_4 : decode cL_rehearse 4 = .ok (.iload_n 1, 1) := by decide +kernel
theorem dL_rehearse_5 : decode cL_rehearse 5 = .ok (.iload_n 2, 1) := by decide +kernel
theorem dL_rehearse_6 : decode cL_rehearse 6 = .ok (.iload_n 3, 1) := by decide +kernel
theorem dL_rehearse_7 : decode cL_rehearse 7 = .ok (.iload 4, 2) := by decide +kernel
theorem dL_rehearse_9 : decode cL_rehearse 9 = .ok (.invokevirtual 48, 3) := by decide +kernel
theorem dL_rehearse_12 : decode cL_rehearse 12 = .ok (.i2l, 1) := by decide +kernel
theorem dL_rehearse_13 : decode cL_rehearse 13 = .ok (.lastore, 1) := by decide +kernel
theorem dL_rehearse_14 : decode cL_rehearse 14 = .ok (.goto 15, 3) := by decide +kernel
theorem dL_rehearse_17 : decode cL_rehearse 17 = .ok (.astore 6, 2) := by decide +kernel
theorem dL_rehearse_19 : decode cL_rehearse 19 = .ok (.iconst 1, 1) := by decide +kernel
theorem dL_rehearse_20 : decode cL_rehearse 20 = .ok (.ireturn, 1) := by decide +kernel
theorem dL_rehearse_21 : decode cL_rehearse 21 = .ok (.astore 6, 2) := by decide +kernel
theorem dL_rehearse_23 : decode cL_rehearse 23 = .ok (.iconst 2, 1) := by decide +kernel
theorem dL_rehearse_24 : decode cL_rehearse 24 = .ok (.ireturn, 1) := by decide +kernel
theorem dL_rehearse_25 : decode cL_rehearse 25 = .ok (.astore 6, 2) := by decide +kernel
theorem dL_rehearse_27 : decode cL_rehearse 27 = .ok (.iconst 3, 1) := by decide +kernel
theorem dL_rehearse_28 : decode cL_rehearse 28 = .ok (.ireturn, 1) := by decide +kernel
theorem dL_rehearse_29 : decode cL_rehearse 29 = .ok (.iconst 0, 1) := by decide +kernel
theorem dL_rehearse_30 : decode cL_rehearse 30 = .ok (.ireturn, 1) := by decide +kernel
theorem dL_rehearsal_0 : decode cL_rehearsal 0 = .ok (.aload_n 3, 1) := by decide +kernel
theorem dL_rehearsal_1 : decode cL_rehearsal 1 = .ok (.iconst 0, 1) := by decide +kernel
theorem dL_rehearsal_2 : decode cL_rehearsal 2 = .ok (.aload_n 0, 1) := by decide +kernel
theorem dL_rehearsal_3 : decode cL_rehearsal 3 = .ok (.iload_n 1, 1) := by decide +kernel
theorem dL_rehearsal_4 : decode cL_rehearsal 4 = .ok (.iload_n 2, 1) := by decide +kernel
theorem dL_rehearsal_5 : decode cL_rehearsal 5 = .ok (.invokevirtual 51, 3) := by decide +kernel
theorem dL_rehearsal_8 : decode cL_rehearsal 8 = .ok (.i2l, 1) := by decide +kernel
theorem dL_rehearsal_9 : decode cL_rehearsal 9 = .ok (.lastore, 1) := by decide +kernel
theorem dL_rehearsal_10 : decode cL_rehearsal 10 = .ok (.goto 7, 3) := by decide +kernel
theorem dL_rehearsal_13 : decode cL_rehearsal 13 = .ok (.astore 4, 2) := by decide +kernel
theorem dL_rehearsal_15 : decode cL_rehearsal 15 = .ok (.iconst 1, 1) := by decide +kernel
theorem dL_rehearsal_16 : decode cL_rehearsal 16 = .ok (.ireturn, 1) := by decide +kernel
theorem dL_rehearsal_17 : decode cL_rehearsal 17 = .ok (.iconst 0, 1) := by decide +kernel
theorem dL_rehearsal_18 : decode cL_rehearsal 18 = .ok (.ireturn, 1) := by decide +kernel
theorem dL_knees_0 : decode cL_knees 0 = .ok (.aload_n 2, 1) := by decide +kernel
theorem dL_knees_1 : decode cL_knees 1 = .ok (.iconst 0, 1) := by decide +kernel
theorem dL_knees_2 : decode cL_knees 2 = .ok (.aload_n 0, 1) := by decide +kernel
theorem dL_knees_3 : decode cL_knees 3 = .ok (.iload_n 1, 1) := by decide +kernel
theorem dL_knees_4 : decode cL_knees 4 = .ok (.invokevirtual 54, 3) := by decide +kernel
theorem dL_knees_7 : decode cL_knees 7 = .ok (.i2l, 1) := by decide +kernel
theorem dL_knees_8 : decode cL_knees 8 = .ok (.lastore, 1) := by decide +kernel
theorem dL_knees_9 : decode cL_knees 9 = .ok (.goto 6, 3) := by decide +kernel
theorem dL_knees_12 : decode cL_knees 12 = .ok (.astore_n 3, 1) := by decide +kernel
theorem dL_knees_13 : decode cL_knees 13 = .ok (.iconst 1, 1) := by decide +kernel
theorem dL_knees_14 : decode cL_knees 14 = .ok (.ireturn, 1) := by decide +kernel
theorem dL_knees_15 : decode cL_knees 15 = .ok (.iconst 0, 1) := by decide +kernel
theorem dL_knees_16 : decode cL_knees 16 = .ok (.ireturn, 1) := by decide +kernel
theorem dL_hurt_0 : decode cL_hurt 0 = .ok (.aload_n 2, 1) := by decide +kernel
theorem dL_hurt_1 : decode cL_hurt 1 = .ok (.iconst 0, 1) := by decide +kernel
theorem dL_hurt_2 : decode cL_hurt 2 = .ok (.aload_n 0, 1) := by decide +kernel
theorem dL_hurt_3 : decode cL_hurt 3 = .ok (.iload_n 1, 1) := by decide +kernel
theorem dL_hurt_4 : decode cL_hurt 4 = .ok (.invokevirtual 57, 3) := by decide +kernel
theorem dL_hurt_7 : decode cL_hurt 7 = .ok (.i2l, 1) := by decide +kernel
theorem dL_hurt_8 : decode cL_hurt 8 = .ok (.lastore, 1) := by decide +kernel
theorem dL_hurt_9 : decode cL_hurt 9 = .ok (.goto 9, 3) := by decide +kernel
theorem dL_hurt_12 : decode cL_hurt 12 = .ok (.astore_n 3, 1) := by decide +kernel
theorem dL_hurt_13 : decode cL_hurt 13 = .ok (.iconst 1, 1) := by decide +kernel
theorem dL_hurt_14 : decode cL_hurt 14 = .ok (.ireturn, 1) := by decide +kernel
theorem dL_hurt_15 : decode cL_hurt 15 = .ok (.astore_n 3, 1) := by decide +kernel
theorem dL_hurt_16 : decode cL_hurt 16 = .ok (.iconst 2, 1) := by decide +kernel
theorem dL_hurt_17 : decode cL_hurt 17 = .ok (.ireturn, 1) := by decide +kernel
theorem dL_hurt_18 : decode cL_hurt 18 = .ok (.iconst 0, 1) := by decide +kernel
theorem dL_hurt_19 : decode cL_hurt 19 = .ok (.ireturn, 1) := by decide +kernel
theorem dL_law_0 : decode cL_law 0 = .ok (.new 8, 3) := by decide +kernel
theorem dL_law_3 : decode cL_law 3 = .ok (.dup, 1) := by decide +kernel
theorem dL_law_4 : decode cL_law 4 = .ok (.invokespecial 60, 3) := by decide +kernel
theorem dL_law_7 : decode cL_law 7 = .ok (.astore_n 1, 1) := by decide +kernel
theorem dL_law_8 : decode cL_law 8 = .ok (.new 61, 3) := by decide +kernel
theorem dL_law_11 : decode cL_law 11 = .ok (.dup, 1) := by decide +kernel
theorem dL_law_12 : decode cL_law 12 = .ok (.invokespecial 63, 3) := by decide +kernel
theorem dL_law_15 : decode cL_law 15 = .ok (.astore_n 2, 1) := by decide +kernel
theorem dL_law_16 : decode cL_law 16 = .ok (.iconst 1, 1) := by decide +kernel
theorem dL_law_17 : decode cL_law 17 = .ok (.newarray .long, 2) := by decide +kernel
theorem dL_law_19 : decode cL_law 19 = .ok (.astore_n 3, 1) := by decide +kernel
theorem dL_law_20 : decode cL_law 20 = .ok (.iconst 0, 1) := by decide +kernel
theorem dL_law_21 : decode cL_law 21 = .ok (.istore 4, 2) := by decide +kernel
theorem dL_law_23 : decode cL_law 23 = .ok (.iload 4, 2) := by decide +kernel
theorem dL_law_25 : decode cL_law 25 = .ok (.aload_n 0, 1) := by decide +kernel
theorem dL_law_26 : decode cL_law 26 = .ok (.arraylength, 1) := by decide +kernel
theorem dL_law_27 : decode cL_law 27 = .ok (.iconst 5, 1) := by decide +kernel
theorem dL_law_28 : decode cL_law 28 = .ok (.isub, 1) := by decide +kernel
theorem dL_law_29 : decode cL_law 29 = .ok (.if_icmp .gt 1079, 3) := by decide +kernel
theorem dL_law_32 : decode cL_law 32 = .ok (.aload_n 0, 1) := by decide +kernel
theorem dL_law_33 : decode cL_law 33 = .ok (.iload 4, 2) := by decide +kernel
theorem dL_law_35 : decode cL_law 35 = .ok (.iaload, 1) := by decide +kernel
theorem dL_law_36 : decode cL_law 36 = .ok (.bipush 15, 2) := by decide +kernel
theorem dL_law_38 : decode cL_law 38 = .ok (.iand, 1) := by decide +kernel
theorem dL_law_39 : decode cL_law 39 = .ok (.tableswitch 1063 0 14 #[73, 141, 233, 329, 425, 481, 494, 586, 654, 722, 778, 870, 938, 994, 1050], 73) := by decide +kernel
theorem dL_law_112 : decode cL_law 112 = .ok (.aload_n 1, 1) := by decide +kernel
theorem dL_law_113 : decode cL_law 113 = .ok (.aload_n 0, 1) := by decide +kernel
theorem dL_law_114 : decode cL_law 114 = .ok (.iload 4, 2) := by decide +kernel
theorem dL_law_116 : decode cL_law 116 = .ok (.iconst 1, 1) := by decide +kernel
theorem dL_law_117 : decode cL_law 117 = .ok (.iadd, 1) := by decide +kernel
theorem dL_law_118 : decode cL_law 118 = .ok (.iaload, 1) := by decide +kernel
theorem dL_law_119 : decode cL_law 119 = .ok (.aload_n 0, 1) := by decide +kernel
theorem dL_law_120 : decode cL_law 120 = .ok (.iload 4, 2) := by decide +kernel
theorem dL_law_122 : decode cL_law 122 = .ok (.iconst 2, 1) := by decide +kernel
theorem dL_law_123 : decode cL_law 123 = .ok (.iadd, 1) := by decide +kernel
theorem dL_law_124 : decode cL_law 124 = .ok (.iaload, 1) := by decide +kernel
theorem dL_law_125 : decode cL_law 125 = .ok (.aload_n 3, 1) := by decide +kernel
theorem dL_law_126 : decode cL_law 126 = .ok (.invokestatic 64, 3) := by decide +kernel
theorem dL_law_129 : decode cL_law 129 = .ok (.istore 5, 2) := by decide +kernel
theorem dL_law_131 : decode cL_law 131 = .ok (.aload_n 2, 1) := by decide +kernel
theorem dL_law_132 : decode cL_law 132 = .ok (.aload_n 0, 1) := by decide +kernel
theorem dL_law_133 : decode cL_law 133 = .ok (.iload 4, 2) := by decide +kernel
theorem dL_law_135 : decode cL_law 135 = .ok (.iconst 1, 1) := by decide +kernel
theorem dL_law_136 : decode cL_law 136 = .ok (.iadd, 1) := by decide +kernel
theorem dL_law_137 : decode cL_law 137 = .ok (.iaload, 1) := by decide +kernel
theorem dL_law_138 : decode cL_law 138 = .ok (.aload_n 0, 1) := by decide +kernel
theorem dL_law_139 : decode cL_law 139 = .ok (.iload 4, 2) := by decide +kernel
theorem dL_law_141 : decode cL_law 141 = .ok (.iconst 2, 1) := by decide +kernel
theorem dL_law_142 : decode cL_law 142 = .ok (.iadd, 1) := by decide +kernel
theorem dL_law_143 : decode cL_law 143 = .ok (.iaload, 1) := by decide +kernel
theorem dL_law_144 : decode cL_law 144 = .ok (.invokevirtual 69, 3) := by decide +kernel
theorem dL_law_147 : decode cL_law 147 = .ok (.istore 6, 2) := by decide +kernel
theorem dL_law_149 : decode cL_law 149 = .ok (.aload_n 2, 1) := by decide +kernel
theorem dL_law_150 : decode cL_law 150 = .ok (.invokevirtual 70, 3) := by decide +kernel
theorem dL_law_153 : decode cL_law 153 = .ok (.iload 5, 2) := by decide +kernel
theorem dL_law_155 : decode cL_law 155 = .ok (.if_icmp .eq 5, 3) := by decide +kernel
theorem dL_law_158 : decode cL_law 158 = .ok (.iconst 0, 1) := by decide +kernel
theorem dL_law_159 : decode cL_law 159 = .ok (.ireturn, 1) := by decide +kernel
theorem dL_law_160 : decode cL_law 160 = .ok (.iload 5, 2) := by decide +kernel
theorem dL_law_162 : decode cL_law 162 = .ok (.ifCond .ne 15, 3) := by decide +kernel
theorem dL_law_165 : decode cL_law 165 = .ok (.aload_n 3, 1) := by decide +kernel
theorem dL_law_166 : decode cL_law 166 = .ok (.iconst 0, 1) := by decide +kernel
theorem dL_law_167 : decode cL_law 167 = .ok (.laload, 1) := by decide +kernel
theorem dL_law_168 : decode cL_law 168 = .ok (.iload 6, 2) := by decide +kernel
theorem dL_law_170 : decode cL_law 170 = .ok (.i2l, 1) := by decide +kernel
theorem dL_law_171 : decode cL_law 171 = .ok (.lcmp, 1) := by decide +kernel
theorem dL_law_172 : decode cL_law 172 = .ok (.ifCond .eq 5, 3) := by decide +kernel
theorem dL_law_175 : decode cL_law 175 = .ok (.iconst 0, 1) := by decide +kernel
theorem dL_law_176 : decode cL_law 176 = .ok (.ireturn, 1) := by decide +kernel
theorem dL_law_177 : decode cL_law 177 = .ok (.goto 925, 3) := by decide +kernel
theorem dL_law_180 : decode cL_law 180 = .ok (.aload_n 1, 1) := by decide +kernel
theorem dL_law_181 : decode cL_law 181 = .ok (.aload_n 0, 1) := by decide +kernel
theorem dL_law_182 : decode cL_law 182 = .ok (.iload 4, 2) := by decide +kernel
theorem dL_law_184 : decode cL_law 184 = .ok (.iconst 1, 1) := by decide +kernel
theorem dL_law_185 : decode cL_law 185 = .ok (.iadd, 1) := by decide +kernel
theorem dL_law_186 : decode cL_law 186 = .ok (.iaload, 1) := by decide +kernel
theorem dL_law_187 : decode cL_law 187 = .ok (.aload_n 0, 1) := by decide +kernel
theorem dL_law_188 : decode cL_law 188 = .ok (.iload 4, 2) := by decide +kernel
theorem dL_law_190 : decode cL_law 190 = .ok (.iconst 2, 1) := by decide +kernel
theorem dL_law_191 : decode cL_law 191 = .ok (.iadd, 1) := by decide +kernel
theorem dL_law_192 : decode cL_law 192 = .ok (.iaload, 1) := by decide +kernel
theorem dL_law_193 : decode cL_law 193 = .ok (.aload_n 0, 1) := by decide +kernel
theorem dL_law_194 : decode cL_law 194 = .ok (.iload 4, 2) := by decide +kernel
theorem dL_law_196 : decode cL_law 196 = .ok (.iconst 3, 1) := by decide +kernel
theorem dL_law_197 : decode cL_law 197 = .ok (.iadd, 1) := by decide +kernel
theorem dL_law_198 : decode cL_law 198 = .ok (.iaload, 1) := by decide +kernel
theorem dL_law_199 : decode cL_law 199 = .ok (.aload_n 0, 1) := by decide +kernel
theorem dL_law_200 : decode cL_law 200 = .ok (.iload 4, 2) := by decide +kernel
theorem dL_law_202 : decode cL_law 202 = .ok (.iconst 4, 1) := by decide +kernel
theorem dL_law_203 : decode cL_law 203 = .ok (.iadd, 1) := by decide +kernel
theorem dL_law_204 : decode cL_law 204 = .ok (.iaload, 1) := by decide +kernel
theorem dL_law_205 : decode cL_law 205 = .ok (.aload_n 3, 1) := by decide +kernel
theorem dL_law_206 : decode cL_law 206 = .ok (.invokestatic 74, 3) := by decide +kernel
theorem dL_law_209 : decode cL_law 209 = .ok (.istore 5, 2) := by decide +kernel
theorem dL_law_211 : decode cL_law 211 = .ok (.aload_n 2, 1) := by decide +kernel
theorem dL_law_212 : decode cL_law 212 = .ok (.aload_n 0, 1) := by decide +kernel
theorem dL_law_213 : decode cL_law 213 = .ok (.iload 4, 2) := by decide +kernel
theorem dL_law_215 : decode cL_law 215 = .ok (.iconst 1, 1) := by decide +kernel
theorem dL_law_216 : decode cL_law 216 = .ok (.iadd, 1) := by decide +kernel
theorem dL_law_217 : decode cL_law 217 = .ok (.iaload, 1) := by decide +kernel
theorem dL_law_218 : decode cL_law 218 = .ok (.aload_n 0, 1) := by decide +kernel
theorem dL_law_219 : decode cL_law 219 = .ok (.iload 4, 2) := by decide +kernel
theorem dL_law_221 : decode cL_law 221 = .ok (.iconst 2, 1) := by decide +kernel
theorem dL_law_222 : decode cL_law 222 = .ok (.iadd, 1) := by decide +kernel
theorem dL_law_223 : decode cL_law 223 = .ok (.iaload, 1) := by decide +kernel
theorem dL_law_224 : decode cL_law 224 = .ok (.aload_n 0, 1) := by decide +kernel
theorem dL_law_225 : decode cL_law 225 = .ok (.iload 4, 2) := by decide +kernel
theorem dL_law_227 : decode cL_law 227 = .ok (.iconst 3, 1) := by decide +kernel
theorem dL_law_228 : decode cL_law 228 = .ok (.iadd, 1) := by decide +kernel
theorem dL_law_229 : decode cL_law 229 = .ok (.iaload, 1) := by decide +kernel
theorem dL_law_230 : decode cL_law 230 = .ok (.aload_n 0, 1) := by decide +kernel
theorem dL_law_231 : decode cL_law 231 = .ok (.iload 4, 2) := by decide +kernel
theorem dL_law_233 : decode cL_law 233 = .ok (.iconst 4, 1) := by decide +kernel
theorem dL_law_234 : decode cL_law 234 = .ok (.iadd, 1) := by decide +kernel
theorem dL_law_235 : decode cL_law 235 = .ok (.iaload, 1) := by decide +kernel
theorem dL_law_236 : decode cL_law 236 = .ok (.invokevirtual 77, 3) := by decide +kernel
theorem dL_law_239 : decode cL_law 239 = .ok (.istore 6, 2) := by decide +kernel
theorem dL_law_241 : decode cL_law 241 = .ok (.aload_n 2, 1) := by decide +kernel
theorem dL_law_242 : decode cL_law 242 = .ok (.invokevirtual 70, 3) := by decide +kernel
theorem dL_law_245 : decode cL_law 245 = .ok (.iload 5, 2) := by decide +kernel
theorem dL_law_247 : decode cL_law 247 = .ok (.if_icmp .eq 5, 3) := by decide +kernel
theorem dL_law_250 : decode cL_law 250 = .ok (.iconst 0, 1) := by decide +kernel
theorem dL_law_251 : decode cL_law 251 = .ok (.ireturn, 1) := by decide +kernel
theorem dL_law_252 : decode cL_law 252 = .ok (.iload 5, 2) := by decide +kernel
theorem dL_law_254 : decode cL_law 254 = .ok (.ifCond .ne 15, 3) := by decide +kernel
theorem dL_law_257 : decode cL_law 257 = .ok (.aload_n 3, 1) := by decide +kernel
theorem dL_law_258 : decode cL_law 258 = .ok (.iconst 0, 1) := by decide +kernel
theorem dL_law_259 : decode cL_law 259 = .ok (.laload, 1) := by decide +kernel
theorem dL_law_260 : decode cL_law 260 = .ok (.iload 6, 2) := by decide +kernel
theorem dL_law_262 : decode cL_law 262 = .ok (.i2l, 1) := by decide +kernel
theorem dL_law_263 : decode cL_law 263 = .ok (.lcmp, 1) := by decide +kernel
theorem dL_law_264 : decode cL_law 264 = .ok (.ifCond .eq 5, 3) := by decide +kernel
theorem dL_law_267 : decode cL_law 267 = .ok (.iconst 0, 1) := by decide +kernel
theorem dL_law_268 : decode cL_law 268 = .ok (.ireturn, 1) := by decide +kernel
theorem dL_law_269 : decode cL_law 269 = .ok (.goto 833, 3) := by decide +kernel
theorem dL_law_272 : decode cL_law 272 = .ok (.aload_n 1, 1) := by decide +kernel
theorem dL_law_273 : decode cL_law 273 = .ok (.aload_n 0, 1) := by decide +kernel
theorem dL_law_274 : decode cL_law 274 = .ok (.iload 4, 2) := by decide +kernel
theorem dL_law_276 : decode cL_law 276 = .ok (.iconst 1, 1) := by decide +kernel
theorem dL_law_277 : decode cL_law 277 = .ok (.iadd, 1) := by decide +kernel
theorem dL_law_278 : decode cL_law 278 = .ok (.iaload, 1) := by decide +kernel
theorem dL_law_279 : decode cL_law 279 = .ok (.aload_n 0, 1) := by decide +kernel
theorem dL_law_280 : decode cL_law 280 = .ok (.iload 4, 2) := by decide +kernel
theorem dL_law_282 : decode cL_law 282 = .ok (.iconst 2, 1) := by decide +kernel
theorem dL_law_283 : decode cL_law 283 = .ok (.iadd, 1) := by decide +kernel
theorem dL_law_284 : decode cL_law 284 = .ok (.iaload, 1) := by decide +kernel
theorem dL_law_285 : decode cL_law 285 = .ok (.aload_n 0, 1) := by decide +kernel
theorem dL_law_286 : decode cL_law 286 = .ok (.iload 4, 2) := by decide +kernel
theorem dL_law_288 : decode cL_law 288 = .ok (.iconst 3, 1) := by decide +kernel
theorem dL_law_289 : decode cL_law 289 = .ok (.iadd, 1) := by decide +kernel
theorem dL_law_290 : decode cL_law 290 = .ok (.iaload, 1) := by decide +kernel
theorem dL_law_291 : decode cL_law 291 = .ok (.ifCond .eq 7, 3) := by decide +kernel
theorem dL_law_294 : decode cL_law 294 = .ok (.iconst 1, 1) := by decide +kernel
theorem dL_law_295 : decode cL_law 295 = .ok (.goto 4, 3) := by decide +kernel
theorem dL_law_298 : decode cL_law 298 = .ok (.iconst 0, 1) := by decide +kernel
theorem dL_law_299 : decode cL_law 299 = .ok (.aload_n 3, 1) := by decide +kernel
theorem dL_law_300 : decode cL_law 300 = .ok (.invokestatic 78, 3) := by decide +kernel
theorem dL_law_303 : decode cL_law 303 = .ok (.istore 5, 2) := by decide +kernel
theorem dL_law_305 : decode cL_law 305 = .ok (.aload_n 2, 1) := by decide +kernel
theorem dL_law_306 : decode cL_law 306 = .ok (.aload_n 0, 1) := by decide +kernel
theorem dL_law_307 : decode cL_law 307 = .ok (.iload 4, 2) := by decide +kernel
theorem dL_law_309 : decode cL_law 309 = .ok (.iconst 1, 1) := by decide +kernel
theorem dL_law_310 : decode cL_law 310 = .ok (.iadd, 1) := by decide +kernel
theorem dL_law_311 : decode cL_law 311 = .ok (.iaload, 1) := by decide +kernel
theorem dL_law_312 : decode cL_law 312 = .ok (.aload_n 0, 1) := by decide +kernel
theorem dL_law_313 : decode cL_law 313 = .ok (.iload 4, 2) := by decide +kernel
theorem dL_law_315 : decode cL_law 315 = .ok (.iconst 2, 1) := by decide +kernel
theorem dL_law_316 : decode cL_law 316 = .ok (.iadd, 1) := by decide +kernel
theorem dL_law_317 : decode cL_law 317 = .ok (.iaload, 1) := by decide +kernel
theorem dL_law_318 : decode cL_law 318 = .ok (.aload_n 0, 1) := by decide +kernel
theorem dL_law_319 : decode cL_law 319 = .ok (.iload 4, 2) := by decide +kernel
theorem dL_law_321 : decode cL_law 321 = .ok (.iconst 3, 1) := by decide +kernel
theorem dL_law_322 : decode cL_law 322 = .ok (.iadd, 1) := by decide +kernel
theorem dL_law_323 : decode cL_law 323 = .ok (.iaload, 1) := by decide +kernel
theorem dL_law_324 : decode cL_law 324 = .ok (.ifCond .eq 7, 3) := by decide +kernel
theorem dL_law_327 : decode cL_law 327 = .ok (.iconst 1, 1) := by decide +kernel
theorem dL_law_328 : decode cL_law 328 = .ok (.goto 4, 3) := by decide +kernel
theorem dL_law_331 : decode cL_law 331 = .ok (.iconst 0, 1) := by decide +kernel
theorem dL_law_332 : decode cL_law 332 = .ok (.invokevirtual 81, 3) := by decide +kernel
theorem dL_law_335 : decode cL_law 335 = .ok (.istore 6, 2) := by decide +kernel
theorem dL_law_337 : decode cL_law 337 = .ok (.aload_n 2, 1) := by decide +kernel
theorem dL_law_338 : decode cL_law 338 = .ok (.invokevirtual 70, 3) := by decide +kernel
theorem dL_law_341 : decode cL_law 341 = .ok (.iload 5, 2) := by decide +kernel
theorem dL_law_343 : decode cL_law 343 = .ok (.if_icmp .eq 5, 3) := by decide +kernel
theorem dL_law_346 : decode cL_law 346 = .ok (.iconst 0, 1) := by decide +kernel
theorem dL_law_347 : decode cL_law 347 = .ok (.ireturn, 1) := by decide +kernel
theorem dL_law_348 : decode cL_law 348 = .ok (.iload 5, 2) := by decide +kernel
theorem dL_law_350 : decode cL_law 350 = .ok (.ifCond .ne 15, 3) := by decide +kernel
theorem dL_law_353 : decode cL_law 353 = .ok (.aload_n 3, 1) := by decide +kernel
theorem dL_law_354 : decode cL_law 354 = .ok (.iconst 0, 1) := by decide +kernel
theorem dL_law_355 : decode cL_law 355 = .ok (.laload, 1) := by decide +kernel
theorem dL_law_356 : decode cL_law 356 = .ok (.iload 6, 2) := by decide +kernel
theorem dL_law_358 : decode cL_law 358 = .ok (.i2l, 1) := by decide +kernel
theorem dL_law_359 : decode cL_law 359 = .ok (.lcmp, 1) := by decide +kernel
theorem dL_law_360 : decode cL_law 360 = .ok (.ifCond .eq 5, 3) := by decide +kernel
theorem dL_law_363 : decode cL_law 363 = .ok (.iconst 0, 1) := by decide +kernel
theorem dL_law_364 : decode cL_law 364 = .ok (.ireturn, 1) := by decide +kernel
theorem dL_law_365 : decode cL_law 365 = .ok (.goto 737, 3) := by decide +kernel
theorem dL_law_368 : decode cL_law 368 = .ok (.aload_n 1, 1) := by decide +kernel
theorem dL_law_369 : decode cL_law 369 = .ok (.aload_n 0, 1) := by decide +kernel
theorem dL_law_370 : decode cL_law 370 = .ok (.iload 4, 2) := by decide +kernel
theorem dL_law_372 : decode cL_law 372 = .ok (.iconst 1, 1) := by decide +kernel
theorem dL_law_373 : decode cL_law 373 = .ok (.iadd, 1) := by decide +kernel
theorem dL_law_374 : decode cL_law 374 = .ok (.iaload, 1) := by decide +kernel
theorem dL_law_375 : decode cL_law 375 = .ok (.aload_n 0, 1) := by decide +kernel
theorem dL_law_376 : decode cL_law 376 = .ok (.iload 4, 2) := by decide +kernel
theorem dL_law_378 : decode cL_law 378 = .ok (.iconst 2, 1) := by decide +kernel
theorem dL_law_379 : decode cL_law 379 = .ok (.iadd, 1) := by decide +kernel
theorem dL_law_380 : decode cL_law 380 = .ok (.iaload, 1) := by decide +kernel
theorem dL_law_381 : decode cL_law 381 = .ok (.aload_n 0, 1) := by decide +kernel
theorem dL_law_382 : decode cL_law 382 = .ok (.iload 4, 2) := by decide +kernel
theorem dL_law_384 : decode cL_law 384 = .ok (.iconst 3, 1) := by decide +kernel
theorem dL_law_385 : decode cL_law 385 = .ok (.iadd, 1) := by decide +kernel
theorem dL_law_386 : decode cL_law 386 = .ok (.iaload, 1) := by decide +kernel
theorem dL_law_387 : decode cL_law 387 = .ok (.ifCond .eq 7, 3) := by decide +kernel
theorem dL_law_390 : decode cL_law 390 = .ok (.iconst 1, 1) := by decide +kernel
theorem dL_law_391 : decode cL_law 391 = .ok (.goto 4, 3) := by decide +kernel
theorem dL_law_394 : decode cL_law 394 = .ok (.iconst 0, 1) := by decide +kernel
theorem dL_law_395 : decode cL_law 395 = .ok (.aload_n 3, 1) := by decide +kernel
theorem dL_law_396 : decode cL_law 396 = .ok (.invokestatic 82, 3) := by decide +kernel
theorem dL_law_399 : decode cL_law 399 = .ok (.istore 5, 2) := by decide +kernel
theorem dL_law_401 : decode cL_law 401 = .ok (.aload_n 2, 1) := by decide +kernel
theorem dL_law_402 : decode cL_law 402 = .ok (.aload_n 0, 1) := by decide +kernel
theorem dL_law_403 : decode cL_law 403 = .ok (.iload 4, 2) := by decide +kernel
theorem dL_law_405 : decode cL_law 405 = .ok (.iconst 1, 1) := by decide +kernel
theorem dL_law_406 : decode cL_law 406 = .ok (.iadd, 1) := by decide +kernel
theorem dL_law_407 : decode cL_law 407 = .ok (.iaload, 1) := by decide +kernel
theorem dL_law_408 : decode cL_law 408 = .ok (.aload_n 0, 1) := by decide +kernel
theorem dL_law_409 : decode cL_law 409 = .ok (.iload 4, 2) := by decide +kernel
theorem dL_law_411 : decode cL_law 411 = .ok (.iconst 2, 1) := by decide +kernel
theorem dL_law_412 : decode cL_law 412 = .ok (.iadd, 1) := by decide +kernel
theorem dL_law_413 : decode cL_law 413 = .ok (.iaload, 1) := by decide +kernel
theorem dL_law_414 : decode cL_law 414 = .ok (.aload_n 0, 1) := by decide +kernel
theorem dL_law_415 : decode cL_law 415 = .ok (.iload 4, 2) := by decide +kernel
theorem dL_law_417 : decode cL_law 417 = .ok (.iconst 3, 1) := by decide +kernel
theorem dL_law_418 : decode cL_law 418 = .ok (.iadd, 1) := by decide +kernel
theorem dL_law_419 : decode cL_law 419 = .ok (.iaload, 1) := by decide +kernel
theorem dL_law_420 : decode cL_law 420 = .ok (.ifCond .eq 7, 3) := by decide +kernel
theorem dL_law_423 : decode cL_law 423 = .ok (.iconst 1, 1) := by decide +kernel
theorem dL_law_424 : decode cL_law 424 = .ok (.goto 4, 3) := by decide +kernel
theorem dL_law_427 : decode cL_law 427 = .ok (.iconst 0, 1) := by decide +kernel
theorem dL_law_428 : decode cL_law 428 = .ok (.invokevirtual 84, 3) := by decide +kernel
theorem dL_law_431 : decode cL_law 431 = .ok (.istore 6, 2) := by decide +kernel
theorem dL_law_433 : decode cL_law 433 = .ok (.aload_n 2, 1) := by decide +kernel
theorem dL_law_434 : decode cL_law 434 = .ok (.invokevirtual 70, 3) := by decide +kernel
theorem dL_law_437 : decode cL_law 437 = .ok (.iload 5, 2) := by decide +kernel
theorem dL_law_439 : decode cL_law 439 = .ok (.if_icmp .eq 5, 3) := by decide +kernel
theorem dL_law_442 : decode cL_law 442 = .ok (.iconst 0, 1) := by decide +kernel
theorem dL_law_443 : decode cL_law 443 = .ok (.ireturn, 1) := by decide +kernel
theorem dL_law_444 : decode cL_law 444 = .ok (.iload 5, 2) := by decide +kernel
theorem dL_law_446 : decode cL_law 446 = .ok (.ifCond .ne 15, 3) := by decide +kernel
theorem dL_law_449 : decode cL_law 449 = .ok (.aload_n 3, 1) := by decide +kernel
theorem dL_law_450 : decode cL_law 450 = .ok (.iconst 0, 1) := by decide +kernel
theorem dL_law_451 : decode cL_law 451 = .ok (.laload, 1) := by decide +kernel
theorem dL_law_452 : decode cL_law 452 = .ok (.iload 6, 2) := by decide +kernel
theorem dL_law_454 : decode cL_law 454 = .ok (.i2l, 1) := by decide +kernel
theorem dL_law_455 : decode cL_law 455 = .ok (.lcmp, 1) := by decide +kernel
theorem dL_law_456 : decode cL_law 456 = .ok (.ifCond .eq 5, 3) := by decide +kernel
theorem dL_law_459 : decode cL_law 459 = .ok (.iconst 0, 1) := by decide +kernel
theorem dL_law_460 : decode cL_law 460 = .ok (.ireturn, 1) := by decide +kernel
theorem dL_law_461 : decode cL_law 461 = .ok (.goto 641, 3) := by decide +kernel
theorem dL_law_464 : decode cL_law 464 = .ok (.aload_n 1, 1) := by decide +kernel
theorem dL_law_465 : decode cL_law 465 = .ok (.aload_n 0, 1) := by decide +kernel
theorem dL_law_466 : decode cL_law 466 = .ok (.iload 4, 2) := by decide +kernel
theorem dL_law_468 : decode cL_law 468 = .ok (.iconst 1, 1) := by decide +kernel
theorem dL_law_469 : decode cL_law 469 = .ok (.iadd, 1) := by decide +kernel
theorem dL_law_470 : decode cL_law 470 = .ok (.iaload, 1) := by decide +kernel
theorem dL_law_471 : decode cL_law 471 = .ok (.aload_n 3, 1) := by decide +kernel
theorem dL_law_472 : decode cL_law 472 = .ok (.invokestatic 85, 3) := by decide +kernel
theorem dL_law_475 : decode cL_law 475 = .ok (.istore 5, 2) := by decide +kernel
theorem dL_law_477 : decode cL_law 477 = .ok (.aload_n 2, 1) := by decide +kernel
theorem dL_law_478 : decode cL_law 478 = .ok (.aload_n 0, 1) := by decide +kernel
theorem dL_law_479 : decode cL_law 479 = .ok (.iload 4, 2) := by decide +kernel
theorem dL_law_481 : decode cL_law 481 = .ok (.iconst 1, 1) := by decide +kernel
theorem dL_law_482 : decode cL_law 482 = .ok (.iadd, 1) := by decide +kernel
theorem dL_law_483 : decode cL_law 483 = .ok (.iaload, 1) := by decide +kernel
theorem dL_law_484 : decode cL_law 484 = .ok (.invokevirtual 88, 3) := by decide +kernel
theorem dL_law_487 : decode cL_law 487 = .ok (.istore 6, 2) := by decide +kernel
theorem dL_law_489 : decode cL_law 489 = .ok (.aload_n 2, 1) := by decide +kernel
theorem dL_law_490 : decode cL_law 490 = .ok (.invokevirtual 70, 3) := by decide +kernel
theorem dL_law_493 : decode cL_law 493 = .ok (.iload 5, 2) := by decide +kernel
theorem dL_law_495 : decode cL_law 495 = .ok (.if_icmp .eq 5, 3) := by decide +kernel
theorem dL_law_498 : decode cL_law 498 = .ok (.iconst 0, 1) := by decide +kernel
theorem dL_law_499 : decode cL_law 499 = .ok (.ireturn, 1) := by decide +kernel
theorem dL_law_500 : decode cL_law 500 = .ok (.iload 5, 2) := by decide +kernel
theorem dL_law_502 : decode cL_law 502 = .ok (.ifCond .ne 15, 3) := by decide +kernel
theorem dL_law_505 : decode cL_law 505 = .ok (.aload_n 3, 1) := by decide +kernel
theorem dL_law_506 : decode cL_law 506 = .ok (.iconst 0, 1) := by decide +kernel
theorem dL_law_507 : decode cL_law 507 = .ok (.laload, 1) := by decide +kernel
theorem dL_law_508 : decode cL_law 508 = .ok (.iload 6, 2) := by decide +kernel
theorem dL_law_510 : decode cL_law 510 = .ok (.i2l, 1) := by decide +kernel
theorem dL_law_511 : decode cL_law 511 = .ok (.lcmp, 1) := by decide +kernel
theorem dL_law_512 : decode cL_law 512 = .ok (.ifCond .eq 5, 3) := by decide +kernel
theorem dL_law_515 : decode cL_law 515 = .ok (.iconst 0, 1) := by decide +kernel
theorem dL_law_516 : decode cL_law 516 = .ok (.ireturn, 1) := by decide +kernel
theorem dL_law_517 : decode cL_law 517 = .ok (.goto 585, 3) := by decide +kernel
theorem dL_law_520 : decode cL_law 520 = .ok (.aload_n 1, 1) := by decide +kernel
theorem dL_law_521 : decode cL_law 521 = .ok (.invokevirtual 89, 3) := by decide +kernel
theorem dL_law_524 : decode cL_law 524 = .ok (.aload_n 2, 1) := by decide +kernel
theorem dL_law_525 : decode cL_law 525 = .ok (.invokevirtual 92, 3) := by decide +kernel
theorem dL_law_528 : decode cL_law 528 = .ok (.if_icmp .eq 574, 3) := by decide +kernel
theorem dL_law_531 : decode cL_law 531 = .ok (.iconst 0, 1) := by decide +kernel
theorem dL_law_532 : decode cL_law 532 = .ok (.ireturn, 1) := by decide +kernel
theorem dL_law_533 : decode cL_law 533 = .ok (.aload_n 1, 1) := by decide +kernel
theorem dL_law_534 : decode cL_law 534 = .ok (.aload_n 0, 1) := by decide +kernel
theorem dL_law_535 : decode cL_law 535 = .ok (.iload 4, 2) := by decide +kernel
theorem dL_law_537 : decode cL_law 537 = .ok (.iconst 1, 1) := by decide +kernel
theorem dL_law_538 : decode cL_law 538 = .ok (.iadd, 1) := by decide +kernel
theorem dL_law_539 : decode cL_law 539 = .ok (.iaload, 1) := by decide +kernel
theorem dL_law_540 : decode cL_law 540 = .ok (.aload_n 0, 1) := by decide +kernel
theorem dL_law_541 : decode cL_law 541 = .ok (.iload 4, 2) := by decide +kernel
theorem dL_law_543 : decode cL_law 543 = .ok (.iconst 2, 1) := by decide +kernel
theorem dL_law_544 : decode cL_law 544 = .ok (.iadd, 1) := by decide +kernel
theorem dL_law_545 : decode cL_law 545 = .ok (.iaload, 1) := by decide +kernel
theorem dL_law_546 : decode cL_law 546 = .ok (.aload_n 0, 1) := by decide +kernel
theorem dL_law_547 : decode cL_law 547 = .ok (.iload 4, 2) := by decide +kernel
theorem dL_law_549 : decode cL_law 549 = .ok (.iconst 3, 1) := by decide +kernel
theorem dL_law_550 : decode cL_law 550 = .ok (.iadd, 1) := by decide +kernel
theorem dL_law_551 : decode cL_law 551 = .ok (.iaload, 1) := by decide +kernel
theorem dL_law_552 : decode cL_law 552 = .ok (.aload_n 0, 1) := by decide +kernel
theorem dL_law_553 : decode cL_law 553 = .ok (.iload 4, 2) := by decide +kernel
theorem dL_law_555 : decode cL_law 555 = .ok (.iconst 4, 1) := by decide +kernel
theorem dL_law_556 : decode cL_law 556 = .ok (.iadd, 1) := by decide +kernel
theorem dL_law_557 : decode cL_law 557 = .ok (.iaload, 1) := by decide +kernel
theorem dL_law_558 : decode cL_law 558 = .ok (.aload_n 3, 1) := by decide +kernel
theorem dL_law_559 : decode cL_law 559 = .ok (.invokestatic 93, 3) := by decide +kernel
theorem dL_law_562 : decode cL_law 562 = .ok (.istore 5, 2) := by decide +kernel
theorem dL_law_564 : decode cL_law 564 = .ok (.aload_n 2, 1) := by decide +kernel
theorem dL_law_565 : decode cL_law 565 = .ok (.aload_n 0, 1) := by decide +kernel
theorem dL_law_566 : decode cL_law 566 = .ok (.iload 4, 2) := by decide +kernel
theorem dL_law_568 : decode cL_law 568 = .ok (.iconst 1, 1) := by decide +kernel
theorem dL_law_569 : decode cL_law 569 = .ok (.iadd, 1) := by decide +kernel
theorem dL_law_570 : decode cL_law 570 = .ok (.iaload, 1) := by decide +kernel
theorem dL_law_571 : decode cL_law 571 = .ok (.aload_n 0, 1) := by decide +kernel
theorem dL_law_572 : decode cL_law 572 = .ok (.iload 4, 2) := by decide +kernel
theorem dL_law_574 : decode cL_law 574 = .ok (.iconst 2, 1) := by decide +kernel
theorem dL_law_575 : decode cL_law 575 = .ok (.iadd, 1) := by decide +kernel
theorem dL_law_576 : decode cL_law 576 = .ok (.iaload, 1) := by decide +kernel
theorem dL_law_577 : decode cL_law 577 = .ok (.aload_n 0, 1) := by decide +kernel
theorem dL_law_578 : decode cL_law 578 = .ok (.iload 4, 2) := by decide +kernel
theorem dL_law_580 : decode cL_law 580 = .ok (.iconst 3, 1) := by decide +kernel
theorem dL_law_581 : decode cL_law 581 = .ok (.iadd, 1) := by decide +kernel
theorem dL_law_582 : decode cL_law 582 = .ok (.iaload, 1) := by decide +kernel
theorem dL_law_583 : decode cL_law 583 = .ok (.aload_n 0, 1) := by decide +kernel
theorem dL_law_584 : decode cL_law 584 = .ok (.iload 4, 2) := by decide +kernel
theorem dL_law_586 : decode cL_law 586 = .ok (.iconst 4, 1) := by decide +kernel
theorem dL_law_587 : decode cL_law 587 = .ok (.iadd, 1) := by decide +kernel
theorem dL_law_588 : decode cL_law 588 = .ok (.iaload, 1) := by decide +kernel
theorem dL_law_589 : decode cL_law 589 = .ok (.invokevirtual 95, 3) := by decide +kernel
theorem dL_law_592 : decode cL_law 592 = .ok (.istore 6, 2) := by decide +kernel
theorem dL_law_594 : decode cL_law 594 = .ok (.aload_n 2, 1) := by decide +kernel
theorem dL_law_595 : decode cL_law 595 = .ok (.invokevirtual 70, 3) := by decide +kernel
theorem dL_law_598 : decode cL_law 598 = .ok (.iload 5, 2) := by decide +kernel
theorem dL_law_600 : decode cL_law 600 = .ok (.if_icmp .eq 5, 3) := by decide +kernel
theorem dL_law_603 : decode cL_law 603 = .ok (.iconst 0, 1) := by decide +kernel
theorem dL_law_604 : decode cL_law 604 = .ok (.ireturn, 1) := by decide +kernel
theorem dL_law_605 : decode cL_law 605 = .ok (.iload 5, 2) := by decide +kernel
theorem dL_law_607 : decode cL_law 607 = .ok (.ifCond .ne 15, 3) := by decide +kernel
theorem dL_law_610 : decode cL_law 610 = .ok (.aload_n 3, 1) := by decide +kernel
theorem dL_law_611 : decode cL_law 611 = .ok (.iconst 0, 1) := by decide +kernel
theorem dL_law_612 : decode cL_law 612 = .ok (.laload, 1) := by decide +kernel
theorem dL_law_613 : decode cL_law 613 = .ok (.iload 6, 2) := by decide +kernel
theorem dL_law_615 : decode cL_law 615 = .ok (.i2l, 1) := by decide +kernel
theorem dL_law_616 : decode cL_law 616 = .ok (.lcmp, 1) := by decide +kernel
theorem dL_law_617 : decode cL_law 617 = .ok (.ifCond .eq 5, 3) := by decide +kernel
theorem dL_law_620 : decode cL_law 620 = .ok (.iconst 0, 1) := by decide +kernel
theorem dL_law_621 : decode cL_law 621 = .ok (.ireturn, 1) := by decide +kernel
theorem dL_law_622 : decode cL_law 622 = .ok (.goto 480, 3) := by decide +kernel
theorem dL_law_625 : decode cL_law 625 = .ok (.aload_n 1, 1) := by decide +kernel
theorem dL_law_626 : decode cL_law 626 = .ok (.aload_n 0, 1) := by decide +kernel
theorem dL_law_627 : decode cL_law 627 = .ok (.iload 4, 2) := by decide +kernel
theorem dL_law_629 : decode cL_law 629 = .ok (.iconst 1, 1) := by decide +kernel
theorem dL_law_630 : decode cL_law 630 = .ok (.iadd, 1) := by decide +kernel
theorem dL_law_631 : decode cL_law 631 = .ok (.iaload, 1) := by decide +kernel
theorem dL_law_632 : decode cL_law 632 = .ok (.aload_n 0, 1) := by decide +kernel
theorem dL_law_633 : decode cL_law 633 = .ok (.iload 4, 2) := by decide +kernel
theorem dL_law_635 : decode cL_law 635 = .ok (.iconst 2, 1) := by decide +kernel
theorem dL_law_636 : decode cL_law 636 = .ok (.iadd, 1) := by decide +kernel
theorem dL_law_637 : decode cL_law 637 = .ok (.iaload, 1) := by decide +kernel
theorem dL_law_638 : decode cL_law 638 = .ok (.aload_n 3, 1) := by decide +kernel
theorem dL_law_639 : decode cL_law 639 = .ok (.invokestatic 96, 3) := by decide +kernel
theorem dL_law_642 : decode cL_law 642 = .ok (.istore 5, 2) := by decide +kernel
theorem dL_law_644 : decode cL_law 644 = .ok (.aload_n 2, 1) := by decide +kernel
theorem dL_law_645 : decode cL_law 645 = .ok (.aload_n 0, 1) := by decide +kernel
theorem dL_law_646 : decode cL_law 646 = .ok (.iload 4, 2) := by decide +kernel
theorem dL_law_648 : decode cL_law 648 = .ok (.iconst 1, 1) := by decide +kernel
theorem dL_law_649 : decode cL_law 649 = .ok (.iadd, 1) := by decide +kernel
theorem dL_law_650 : decode cL_law 650 = .ok (.iaload, 1) := by decide +kernel
theorem dL_law_651 : decode cL_law 651 = .ok (.aload_n 0, 1) := by decide +kernel
theorem dL_law_652 : decode cL_law 652 = .ok (.iload 4, 2) := by decide +kernel
theorem dL_law_654 : decode cL_law 654 = .ok (.iconst 2, 1) := by decide +kernel
theorem dL_law_655 : decode cL_law 655 = .ok (.iadd, 1) := by decide +kernel
theorem dL_law_656 : decode cL_law 656 = .ok (.iaload, 1) := by decide +kernel
theorem dL_law_657 : decode cL_law 657 = .ok (.invokevirtual 98, 3) := by decide +kernel
theorem dL_law_660 : decode cL_law 660 = .ok (.istore 6, 2) := by decide +kernel
theorem dL_law_662 : decode cL_law 662 = .ok (.aload_n 2, 1) := by decide +kernel
theorem dL_law_663 : decode cL_law 663 = .ok (.invokevirtual 70, 3) := by decide +kernel
theorem dL_law_666 : decode cL_law 666 = .ok (.iload 5, 2) := by decide +kernel
theorem dL_law_668 : decode cL_law 668 = .ok (.if_icmp .eq 5, 3) := by decide +kernel
theorem dL_law_671 : decode cL_law 671 = .ok (.iconst 0, 1) := by decide +kernel
theorem dL_law_672 : decode cL_law 672 = .ok (.ireturn, 1) := by decide +kernel
theorem dL_law_673 : decode cL_law 673 = .ok (.iload 5, 2) := by decide +kernel
theorem dL_law_675 : decode cL_law 675 = .ok (.ifCond .ne 15, 3) := by decide +kernel
theorem dL_law_678 : decode cL_law 678 = .ok (.aload_n 3, 1) := by decide +kernel
theorem dL_law_679 : decode cL_law 679 = .ok (.iconst 0, 1) := by decide +kernel
theorem dL_law_680 : decode cL_law 680 = .ok (.laload, 1) := by decide +kernel
theorem dL_law_681 : decode cL_law 681 = .ok (.iload 6, 2) := by decide +kernel
theorem dL_law_683 : decode cL_law 683 = .ok (.i2l, 1) := by decide +kernel
theorem dL_law_684 : decode cL_law 684 = .ok (.lcmp, 1) := by decide +kernel
theorem dL_law_685 : decode cL_law 685 = .ok (.ifCond .eq 5, 3) := by decide +kernel
theorem dL_law_688 : decode cL_law 688 = .ok (.iconst 0, 1) := by decide +kernel
theorem dL_law_689 : decode cL_law 689 = .ok (.ireturn, 1) := by decide +kernel
theorem dL_law_690 : decode cL_law 690 = .ok (.goto 412, 3) := by decide +kernel
theorem dL_law_693 : decode cL_law 693 = .ok (.aload_n 1, 1) := by decide +kernel
theorem dL_law_694 : decode cL_law 694 = .ok (.aload_n 0, 1) := by decide +kernel
theorem dL_law_695 : decode cL_law 695 = .ok (.iload 4, 2) := by decide +kernel
theorem dL_law_697 : decode cL_law 697 = .ok (.iconst 1, 1) := by decide +kernel
theorem dL_law_698 : decode cL_law 698 = .ok (.iadd, 1) := by decide +kernel
theorem dL_law_699 : decode cL_law 699 = .ok (.iaload, 1) := by decide +kernel
theorem dL_law_700 : decode cL_law 700 = .ok (.aload_n 0, 1) := by decide +kernel
theorem dL_law_701 : decode cL_law 701 = .ok (.iload 4, 2) := by decide +kernel
theorem dL_law_703 : decode cL_law 703 = .ok (.iconst 2, 1) := by decide +kernel
theorem dL_law_704 : decode cL_law 704 = .ok (.iadd, 1) := by decide +kernel
theorem dL_law_705 : decode cL_law 705 = .ok (.iaload, 1) := by decide +kernel
theorem dL_law_706 : decode cL_law 706 = .ok (.aload_n 3, 1) := by decide +kernel
theorem dL_law_707 : decode cL_law 707 = .ok (.invokestatic 99, 3) := by decide +kernel
theorem dL_law_710 : decode cL_law 710 = .ok (.istore 5, 2) := by decide +kernel
theorem dL_law_712 : decode cL_law 712 = .ok (.aload_n 2, 1) := by decide +kernel
theorem dL_law_713 : decode cL_law 713 = .ok (.aload_n 0, 1) := by decide +kernel
theorem dL_law_714 : decode cL_law 714 = .ok (.iload 4, 2) := by decide +kernel
theorem dL_law_716 : decode cL_law 716 = .ok (.iconst 1, 1) := by decide +kernel
theorem dL_law_717 : decode cL_law 717 = .ok (.iadd, 1) := by decide +kernel
theorem dL_law_718 : decode cL_law 718 = .ok (.iaload, 1) := by decide +kernel
theorem dL_law_719 : decode cL_law 719 = .ok (.aload_n 0, 1) := by decide +kernel
theorem dL_law_720 : decode cL_law 720 = .ok (.iload 4, 2) := by decide +kernel
theorem dL_law_722 : decode cL_law 722 = .ok (.iconst 2, 1) := by decide +kernel
theorem dL_law_723 : decode cL_law 723 = .ok (.iadd, 1) := by decide +kernel
theorem dL_law_724 : decode cL_law 724 = .ok (.iaload, 1) := by decide +kernel
theorem dL_law_725 : decode cL_law 725 = .ok (.invokevirtual 101, 3) := by decide +kernel
theorem dL_law_728 : decode cL_law 728 = .ok (.istore 6, 2) := by decide +kernel
theorem dL_law_730 : decode cL_law 730 = .ok (.aload_n 2, 1) := by decide +kernel
theorem dL_law_731 : decode cL_law 731 = .ok (.invokevirtual 70, 3) := by decide +kernel
theorem dL_law_734 : decode cL_law 734 = .ok (.iload 5, 2) := by decide +kernel
theorem dL_law_736 : decode cL_law 736 = .ok (.if_icmp .eq 5, 3) := by decide +kernel
theorem dL_law_739 : decode cL_law 739 = .ok (.iconst 0, 1) := by decide +kernel
theorem dL_law_740 : decode cL_law 740 = .ok (.ireturn, 1) := by decide +kernel
theorem dL_law_741 : decode cL_law 741 = .ok (.iload 5, 2) := by decide +kernel
theorem dL_law_743 : decode cL_law 743 = .ok (.ifCond .ne 15, 3) := by decide +kernel
theorem dL_law_746 : decode cL_law 746 = .ok (.aload_n 3, 1) := by decide +kernel
theorem dL_law_747 : decode cL_law 747 = .ok (.iconst 0, 1) := by decide +kernel
theorem dL_law_748 : decode cL_law 748 = .ok (.laload, 1) := by decide +kernel
theorem dL_law_749 : decode cL_law 749 = .ok (.iload 6, 2) := by decide +kernel
theorem dL_law_751 : decode cL_law 751 = .ok (.i2l, 1) := by decide +kernel
theorem dL_law_752 : decode cL_law 752 = .ok (.lcmp, 1) := by decide +kernel
theorem dL_law_753 : decode cL_law 753 = .ok (.ifCond .eq 5, 3) := by decide +kernel
theorem dL_law_756 : decode cL_law 756 = .ok (.iconst 0, 1) := by decide +kernel
theorem dL_law_757 : decode cL_law 757 = .ok (.ireturn, 1) := by decide +kernel
theorem dL_law_758 : decode cL_law 758 = .ok (.goto 344, 3) := by decide +kernel
theorem dL_law_761 : decode cL_law 761 = .ok (.aload_n 1, 1) := by decide +kernel
theorem dL_law_762 : decode cL_law 762 = .ok (.aload_n 0, 1) := by decide +kernel
theorem dL_law_763 : decode cL_law 763 = .ok (.iload 4, 2) := by decide +kernel
theorem dL_law_765 : decode cL_law 765 = .ok (.iconst 1, 1) := by decide +kernel
theorem dL_law_766 : decode cL_law 766 = .ok (.iadd, 1) := by decide +kernel
theorem dL_law_767 : decode cL_law 767 = .ok (.iaload, 1) := by decide +kernel
theorem dL_law_768 : decode cL_law 768 = .ok (.aload_n 3, 1) := by decide +kernel
theorem dL_law_769 : decode cL_law 769 = .ok (.invokestatic 102, 3) := by decide +kernel
theorem dL_law_772 : decode cL_law 772 = .ok (.istore 5, 2) := by decide +kernel
theorem dL_law_774 : decode cL_law 774 = .ok (.aload_n 2, 1) := by decide +kernel
theorem dL_law_775 : decode cL_law 775 = .ok (.aload_n 0, 1) := by decide +kernel
theorem dL_law_776 : decode cL_law 776 = .ok (.iload 4, 2) := by decide +kernel
theorem dL_law_778 : decode cL_law 778 = .ok (.iconst 1, 1) := by decide +kernel
theorem dL_law_779 : decode cL_law 779 = .ok (.iadd, 1) := by decide +kernel
theorem dL_law_780 : decode cL_law 780 = .ok (.iaload, 1) := by decide +kernel
theorem dL_law_781 : decode cL_law 781 = .ok (.invokevirtual 104, 3) := by decide +kernel
theorem dL_law_784 : decode cL_law 784 = .ok (.istore 6, 2) := by decide +kernel
theorem dL_law_786 : decode cL_law 786 = .ok (.aload_n 2, 1) := by decide +kernel
theorem dL_law_787 : decode cL_law 787 = .ok (.invokevirtual 70, 3) := by decide +kernel
theorem dL_law_790 : decode cL_law 790 = .ok (.iload 5, 2) := by decide +kernel
theorem dL_law_792 : decode cL_law 792 = .ok (.if_icmp .eq 5, 3) := by decide +kernel
theorem dL_law_795 : decode cL_law 795 = .ok (.iconst 0, 1) := by decide +kernel
theorem dL_law_796 : decode cL_law 796 = .ok (.ireturn, 1) := by decide +kernel
theorem dL_law_797 : decode cL_law 797 = .ok (.iload 5, 2) := by decide +kernel
theorem dL_law_799 : decode cL_law 799 = .ok (.ifCond .ne 15, 3) := by decide +kernel
theorem dL_law_802 : decode cL_law 802 = .ok (.aload_n 3, 1) := by decide +kernel
theorem dL_law_803 : decode cL_law 803 = .ok (.iconst 0, 1) := by decide +kernel
theorem dL_law_804 : decode cL_law 804 = .ok (.laload, 1) := by decide +kernel
theorem dL_law_805 : decode cL_law 805 = .ok (.iload 6, 2) := by decide +kernel
theorem dL_law_807 : decode cL_law 807 = .ok (.i2l, 1) := by decide +kernel
theorem dL_law_808 : decode cL_law 808 = .ok (.lcmp, 1) := by decide +kernel
theorem dL_law_809 : decode cL_law 809 = .ok (.ifCond .eq 5, 3) := by decide +kernel
theorem dL_law_812 : decode cL_law 812 = .ok (.iconst 0, 1) := by decide +kernel
theorem dL_law_813 : decode cL_law 813 = .ok (.ireturn, 1) := by decide +kernel
theorem dL_law_814 : decode cL_law 814 = .ok (.goto 288, 3) := by decide +kernel
theorem dL_law_817 : decode cL_law 817 = .ok (.aload_n 1, 1) := by decide +kernel
theorem dL_law_818 : decode cL_law 818 = .ok (.aload_n 0, 1) := by decide +kernel
theorem dL_law_819 : decode cL_law 819 = .ok (.iload 4, 2) := by decide +kernel
theorem dL_law_821 : decode cL_law 821 = .ok (.iconst 1, 1) := by decide +kernel
theorem dL_law_822 : decode cL_law 822 = .ok (.iadd, 1) := by decide +kernel
theorem dL_law_823 : decode cL_law 823 = .ok (.iaload, 1) := by decide +kernel
theorem dL_law_824 : decode cL_law 824 = .ok (.aload_n 0, 1) := by decide +kernel
theorem dL_law_825 : decode cL_law 825 = .ok (.iload 4, 2) := by decide +kernel
theorem dL_law_827 : decode cL_law 827 = .ok (.iconst 2, 1) := by decide +kernel
theorem dL_law_828 : decode cL_law 828 = .ok (.iadd, 1) := by decide +kernel
theorem dL_law_829 : decode cL_law 829 = .ok (.iaload, 1) := by decide +kernel
theorem dL_law_830 : decode cL_law 830 = .ok (.aload_n 0, 1) := by decide +kernel
theorem dL_law_831 : decode cL_law 831 = .ok (.iload 4, 2) := by decide +kernel
theorem dL_law_833 : decode cL_law 833 = .ok (.iconst 3, 1) := by decide +kernel
theorem dL_law_834 : decode cL_law 834 = .ok (.iadd, 1) := by decide +kernel
theorem dL_law_835 : decode cL_law 835 = .ok (.iaload, 1) := by decide +kernel
theorem dL_law_836 : decode cL_law 836 = .ok (.aload_n 0, 1) := by decide +kernel
theorem dL_law_837 : decode cL_law 837 = .ok (.iload 4, 2) := by decide +kernel
theorem dL_law_839 : decode cL_law 839 = .ok (.iconst 4, 1) := by decide +kernel
theorem dL_law_840 : decode cL_law 840 = .ok (.iadd, 1) := by decide +kernel
theorem dL_law_841 : decode cL_law 841 = .ok (.iaload, 1) := by decide +kernel
theorem dL_law_842 : decode cL_law 842 = .ok (.aload_n 3, 1) := by decide +kernel
theorem dL_law_843 : decode cL_law 843 = .ok (.invokestatic 105, 3) := by decide +kernel
theorem dL_law_846 : decode cL_law 846 = .ok (.istore 5, 2) := by decide +kernel
theorem dL_law_848 : decode cL_law 848 = .ok (.aload_n 2, 1) := by decide +kernel
theorem dL_law_849 : decode cL_law 849 = .ok (.aload_n 0, 1) := by decide +kernel
theorem dL_law_850 : decode cL_law 850 = .ok (.iload 4, 2) := by decide +kernel
theorem dL_law_852 : decode cL_law 852 = .ok (.iconst 1, 1) := by decide +kernel
theorem dL_law_853 : decode cL_law 853 = .ok (.iadd, 1) := by decide +kernel
theorem dL_law_854 : decode cL_law 854 = .ok (.iaload, 1) := by decide +kernel
theorem dL_law_855 : decode cL_law 855 = .ok (.aload_n 0, 1) := by decide +kernel
theorem dL_law_856 : decode cL_law 856 = .ok (.iload 4, 2) := by decide +kernel
theorem dL_law_858 : decode cL_law 858 = .ok (.iconst 2, 1) := by decide +kernel
theorem dL_law_859 : decode cL_law 859 = .ok (.iadd, 1) := by decide +kernel
theorem dL_law_860 : decode cL_law 860 = .ok (.iaload, 1) := by decide +kernel
theorem dL_law_861 : decode cL_law 861 = .ok (.aload_n 0, 1) := by decide +kernel
theorem dL_law_862 : decode cL_law 862 = .ok (.iload 4, 2) := by decide +kernel
theorem dL_law_864 : decode cL_law 864 = .ok (.iconst 3, 1) := by decide +kernel
theorem dL_law_865 : decode cL_law 865 = .ok (.iadd, 1) := by decide +kernel
theorem dL_law_866 : decode cL_law 866 = .ok (.iaload, 1) := by decide +kernel
theorem dL_law_867 : decode cL_law 867 = .ok (.aload_n 0, 1) := by decide +kernel
theorem dL_law_868 : decode cL_law 868 = .ok (.iload 4, 2) := by decide +kernel
theorem dL_law_870 : decode cL_law 870 = .ok (.iconst 4, 1) := by decide +kernel
theorem dL_law_871 : decode cL_law 871 = .ok (.iadd, 1) := by decide +kernel
theorem dL_law_872 : decode cL_law 872 = .ok (.iaload, 1) := by decide +kernel
theorem dL_law_873 : decode cL_law 873 = .ok (.invokevirtual 107, 3) := by decide +kernel
theorem dL_law_876 : decode cL_law 876 = .ok (.istore 6, 2) := by decide +kernel
theorem dL_law_878 : decode cL_law 878 = .ok (.aload_n 2, 1) := by decide +kernel
theorem dL_law_879 : decode cL_law 879 = .ok (.invokevirtual 70, 3) := by decide +kernel
theorem dL_law_882 : decode cL_law 882 = .ok (.iload 5, 2) := by decide +kernel
theorem dL_law_884 : decode cL_law 884 = .ok (.if_icmp .eq 5, 3) := by decide +kernel
theorem dL_law_887 : decode cL_law 887 = .ok (.iconst 0, 1) := by decide +kernel
theorem dL_law_888 : decode cL_law 888 = .ok (.ireturn, 1) := by decide +kernel
theorem dL_law_889 : decode cL_law 889 = .ok (.iload 5, 2) := by decide +kernel
theorem dL_law_891 : decode cL_law 891 = .ok (.ifCond .ne 15, 3) := by decide +kernel
theorem dL_law_894 : decode cL_law 894 = .ok (.aload_n 3, 1) := by decide +kernel
theorem dL_law_895 : decode cL_law 895 = .ok (.iconst 0, 1) := by decide +kernel
theorem dL_law_896 : decode cL_law 896 = .ok (.laload, 1) := by decide +kernel
theorem dL_law_897 : decode cL_law 897 = .ok (.iload 6, 2) := by decide +kernel
theorem dL_law_899 : decode cL_law 899 = .ok (.i2l, 1) := by decide +kernel
theorem dL_law_900 : decode cL_law 900 = .ok (.lcmp, 1) := by decide +kernel
theorem dL_law_901 : decode cL_law 901 = .ok (.ifCond .eq 5, 3) := by decide +kernel
theorem dL_law_904 : decode cL_law 904 = .ok (.iconst 0, 1) := by decide +kernel
theorem dL_law_905 : decode cL_law 905 = .ok (.ireturn, 1) := by decide +kernel
theorem dL_law_906 : decode cL_law 906 = .ok (.goto 196, 3) := by decide +kernel
theorem dL_law_909 : decode cL_law 909 = .ok (.aload_n 1, 1) := by decide +kernel
theorem dL_law_910 : decode cL_law 910 = .ok (.aload_n 0, 1) := by decide +kernel
theorem dL_law_911 : decode cL_law 911 = .ok (.iload 4, 2) := by decide +kernel
theorem dL_law_913 : decode cL_law 913 = .ok (.iconst 1, 1) := by decide +kernel
theorem dL_law_914 : decode cL_law 914 = .ok (.iadd, 1) := by decide +kernel
theorem dL_law_915 : decode cL_law 915 = .ok (.iaload, 1) := by decide +kernel
theorem dL_law_916 : decode cL_law 916 = .ok (.aload_n 0, 1) := by decide +kernel
theorem dL_law_917 : decode cL_law 917 = .ok (.iload 4, 2) := by decide +kernel
theorem dL_law_919 : decode cL_law 919 = .ok (.iconst 2, 1) := by decide +kernel
theorem dL_law_920 : decode cL_law 920 = .ok (.iadd, 1) := by decide +kernel
theorem dL_law_921 : decode cL_law 921 = .ok (.iaload, 1) := by decide +kernel
theorem dL_law_922 : decode cL_law 922 = .ok (.aload_n 3, 1) := by decide +kernel
theorem dL_law_923 : decode cL_law 923 = .ok (.invokestatic 108, 3) := by decide +kernel
theorem dL_law_926 : decode cL_law 926 = .ok (.istore 5, 2) := by decide +kernel
theorem dL_law_928 : decode cL_law 928 = .ok (.aload_n 2, 1) := by decide +kernel
theorem dL_law_929 : decode cL_law 929 = .ok (.aload_n 0, 1) := by decide +kernel
theorem dL_law_930 : decode cL_law 930 = .ok (.iload 4, 2) := by decide +kernel
theorem dL_law_932 : decode cL_law 932 = .ok (.iconst 1, 1) := by decide +kernel
theorem dL_law_933 : decode cL_law 933 = .ok (.iadd, 1) := by decide +kernel
theorem dL_law_934 : decode cL_law 934 = .ok (.iaload, 1) := by decide +kernel
theorem dL_law_935 : decode cL_law 935 = .ok (.aload_n 0, 1) := by decide +kernel
theorem dL_law_936 : decode cL_law 936 = .ok (.iload 4, 2) := by decide +kernel
theorem dL_law_938 : decode cL_law 938 = .ok (.iconst 2, 1) := by decide +kernel
theorem dL_law_939 : decode cL_law 939 = .ok (.iadd, 1) := by decide +kernel
theorem dL_law_940 : decode cL_law 940 = .ok (.iaload, 1) := by decide +kernel
theorem dL_law_941 : decode cL_law 941 = .ok (.invokevirtual 110, 3) := by decide +kernel
theorem dL_law_944 : decode cL_law 944 = .ok (.istore 6, 2) := by decide +kernel
theorem dL_law_946 : decode cL_law 946 = .ok (.aload_n 2, 1) := by decide +kernel
theorem dL_law_947 : decode cL_law 947 = .ok (.invokevirtual 70, 3) := by decide +kernel
theorem dL_law_950 : decode cL_law 950 = .ok (.iload 5, 2) := by decide +kernel
theorem dL_law_952 : decode cL_law 952 = .ok (.if_icmp .eq 5, 3) := by decide +kernel
theorem dL_law_955 : decode cL_law 955 = .ok (.iconst 0, 1) := by decide +kernel
theorem dL_law_956 : decode cL_law 956 = .ok (.ireturn, 1) := by decide +kernel
theorem dL_law_957 : decode cL_law 957 = .ok (.iload 5, 2) := by decide +kernel
theorem dL_law_959 : decode cL_law 959 = .ok (.ifCond .ne 15, 3) := by decide +kernel
theorem dL_law_962 : decode cL_law 962 = .ok (.aload_n 3, 1) := by decide +kernel
theorem dL_law_963 : decode cL_law 963 = .ok (.iconst 0, 1) := by decide +kernel
theorem dL_law_964 : decode cL_law 964 = .ok (.laload, 1) := by decide +kernel
theorem dL_law_965 : decode cL_law 965 = .ok (.iload 6, 2) := by decide +kernel
theorem dL_law_967 : decode cL_law 967 = .ok (.i2l, 1) := by decide +kernel
theorem dL_law_968 : decode cL_law 968 = .ok (.lcmp, 1) := by decide +kernel
theorem dL_law_969 : decode cL_law 969 = .ok (.ifCond .eq 5, 3) := by decide +kernel
theorem dL_law_972 : decode cL_law 972 = .ok (.iconst 0, 1) := by decide +kernel
theorem dL_law_973 : decode cL_law 973 = .ok (.ireturn, 1) := by decide +kernel
theorem dL_law_974 : decode cL_law 974 = .ok (.goto 128, 3) := by decide +kernel
theorem dL_law_977 : decode cL_law 977 = .ok (.aload_n 1, 1) := by decide +kernel
theorem dL_law_978 : decode cL_law 978 = .ok (.aload_n 0, 1) := by decide +kernel
theorem dL_law_979 : decode cL_law 979 = .ok (.iload 4, 2) := by decide +kernel
theorem dL_law_981 : decode cL_law 981 = .ok (.iconst 1, 1) := by decide +kernel
theorem dL_law_982 : decode cL_law 982 = .ok (.iadd, 1) := by decide +kernel
theorem dL_law_983 : decode cL_law 983 = .ok (.iaload, 1) := by decide +kernel
theorem dL_law_984 : decode cL_law 984 = .ok (.aload_n 3, 1) := by decide +kernel
theorem dL_law_985 : decode cL_law 985 = .ok (.invokestatic 111, 3) := by decide +kernel
theorem dL_law_988 : decode cL_law 988 = .ok (.istore 5, 2) := by decide +kernel
theorem dL_law_990 : decode cL_law 990 = .ok (.aload_n 2, 1) := by decide +kernel
theorem dL_law_991 : decode cL_law 991 = .ok (.aload_n 0, 1) := by decide +kernel
theorem dL_law_992 : decode cL_law 992 = .ok (.iload 4, 2) := by decide +kernel
theorem dL_law_994 : decode cL_law 994 = .ok (.iconst 1, 1) := by decide +kernel
theorem dL_law_995 : decode cL_law 995 = .ok (.iadd, 1) := by decide +kernel
theorem dL_law_996 : decode cL_law 996 = .ok (.iaload, 1) := by decide +kernel
theorem dL_law_997 : decode cL_law 997 = .ok (.invokevirtual 113, 3) := by decide +kernel
theorem dL_law_1000 : decode cL_law 1000 = .ok (.istore 6, 2) := by decide +kernel
theorem dL_law_1002 : decode cL_law 1002 = .ok (.aload_n 2, 1) := by decide +kernel
theorem dL_law_1003 : decode cL_law 1003 = .ok (.invokevirtual 70, 3) := by decide +kernel
theorem dL_law_1006 : decode cL_law 1006 = .ok (.iload 5, 2) := by decide +kernel
theorem dL_law_1008 : decode cL_law 1008 = .ok (.if_icmp .eq 5, 3) := by decide +kernel
theorem dL_law_1011 : decode cL_law 1011 = .ok (.iconst 0, 1) := by decide +kernel
theorem dL_law_1012 : decode cL_law 1012 = .ok (.ireturn, 1) := by decide +kernel
theorem dL_law_1013 : decode cL_law 1013 = .ok (.iload 5, 2) := by decide +kernel
theorem dL_law_1015 : decode cL_law 1015 = .ok (.ifCond .ne 15, 3) := by decide +kernel
theorem dL_law_1018 : decode cL_law 1018 = .ok (.aload_n 3, 1) := by decide +kernel
theorem dL_law_1019 : decode cL_law 1019 = .ok (.iconst 0, 1) := by decide +kernel
theorem dL_law_1020 : decode cL_law 1020 = .ok (.laload, 1) := by decide +kernel
theorem dL_law_1021 : decode cL_law 1021 = .ok (.iload 6, 2) := by decide +kernel
theorem dL_law_1023 : decode cL_law 1023 = .ok (.i2l, 1) := by decide +kernel
theorem dL_law_1024 : decode cL_law 1024 = .ok (.lcmp, 1) := by decide +kernel
theorem dL_law_1025 : decode cL_law 1025 = .ok (.ifCond .eq 5, 3) := by decide +kernel
theorem dL_law_1028 : decode cL_law 1028 = .ok (.iconst 0, 1) := by decide +kernel
theorem dL_law_1029 : decode cL_law 1029 = .ok (.ireturn, 1) := by decide +kernel
theorem dL_law_1030 : decode cL_law 1030 = .ok (.goto 72, 3) := by decide +kernel
theorem dL_law_1033 : decode cL_law 1033 = .ok (.aload_n 1, 1) := by decide +kernel
theorem dL_law_1034 : decode cL_law 1034 = .ok (.aload_n 0, 1) := by decide +kernel
theorem dL_law_1035 : decode cL_law 1035 = .ok (.iload 4, 2) := by decide +kernel
theorem dL_law_1037 : decode cL_law 1037 = .ok (.iconst 1, 1) := by decide +kernel
theorem dL_law_1038 : decode cL_law 1038 = .ok (.iadd, 1) := by decide +kernel
theorem dL_law_1039 : decode cL_law 1039 = .ok (.iaload, 1) := by decide +kernel
theorem dL_law_1040 : decode cL_law 1040 = .ok (.aload_n 3, 1) := by decide +kernel
theorem dL_law_1041 : decode cL_law 1041 = .ok (.invokestatic 114, 3) := by decide +kernel
theorem dL_law_1044 : decode cL_law 1044 = .ok (.istore 5, 2) := by decide +kernel
theorem dL_law_1046 : decode cL_law 1046 = .ok (.aload_n 2, 1) := by decide +kernel
theorem dL_law_1047 : decode cL_law 1047 = .ok (.aload_n 0, 1) := by decide +kernel
theorem dL_law_1048 : decode cL_law 1048 = .ok (.iload 4, 2) := by decide +kernel
theorem dL_law_1050 : decode cL_law 1050 = .ok (.iconst 1, 1) := by decide +kernel
theorem dL_law_1051 : decode cL_law 1051 = .ok (.iadd, 1) := by decide +kernel
theorem dL_law_1052 : decode cL_law 1052 = .ok (.iaload, 1) := by decide +kernel
theorem dL_law_1053 : decode cL_law 1053 = .ok (.invokevirtual 116, 3) := by decide +kernel
theorem dL_law_1056 : decode cL_law 1056 = .ok (.istore 6, 2) := by decide +kernel
theorem dL_law_1058 : decode cL_law 1058 = .ok (.aload_n 2, 1) := by decide +kernel
theorem dL_law_1059 : decode cL_law 1059 = .ok (.invokevirtual 70, 3) := by decide +kernel
theorem dL_law_1062 : decode cL_law 1062 = .ok (.iload 5, 2) := by decide +kernel
theorem dL_law_1064 : decode cL_law 1064 = .ok (.if_icmp .eq 5, 3) := by decide +kernel
theorem dL_law_1067 : decode cL_law 1067 = .ok (.iconst 0, 1) := by decide +kernel
theorem dL_law_1068 : decode cL_law 1068 = .ok (.ireturn, 1) := by decide +kernel
theorem dL_law_1069 : decode cL_law 1069 = .ok (.iload 5, 2) := by decide +kernel
theorem dL_law_1071 : decode cL_law 1071 = .ok (.ifCond .ne 15, 3) := by decide +kernel
theorem dL_law_1074 : decode cL_law 1074 = .ok (.aload_n 3, 1) := by decide +kernel
theorem dL_law_1075 : decode cL_law 1075 = .ok (.iconst 0, 1) := by decide +kernel
theorem dL_law_1076 : decode cL_law 1076 = .ok (.laload, 1) := by decide +kernel
theorem dL_law_1077 : decode cL_law 1077 = .ok (.iload 6, 2) := by decide +kernel
theorem dL_law_1079 : decode cL_law 1079 = .ok (.i2l, 1) := by decide +kernel
theorem dL_law_1080 : decode cL_law 1080 = .ok (.lcmp, 1) := by decide +kernel
theorem dL_law_1081 : decode cL_law 1081 = .ok (.ifCond .eq 5, 3) := by decide +kernel
theorem dL_law_1084 : decode cL_law 1084 = .ok (.iconst 0, 1) := by decide +kernel
theorem dL_law_1085 : decode cL_law 1085 = .ok (.ireturn, 1) := by decide +kernel
theorem dL_law_1086 : decode cL_law 1086 = .ok (.goto 16, 3) := by decide +kernel
theorem dL_law_1089 : decode cL_law 1089 = .ok (.aload_n 1, 1) := by decide +kernel
theorem dL_law_1090 : decode cL_law 1090 = .ok (.invokevirtual 117, 3) := by decide +kernel
theorem dL_law_1093 : decode cL_law 1093 = .ok (.aload_n 2, 1) := by decide +kernel
theorem dL_law_1094 : decode cL_law 1094 = .ok (.invokevirtual 120, 3) := by decide +kernel
theorem dL_law_1097 : decode cL_law 1097 = .ok (.if_icmp .eq 5, 3) := by decide +kernel
theorem dL_law_1100 : decode cL_law 1100 = .ok (.iconst 0, 1) := by decide +kernel
theorem dL_law_1101 : decode cL_law 1101 = .ok (.ireturn, 1) := by decide +kernel
theorem dL_law_1102 : decode cL_law 1102 = .ok (.iinc 4 5, 3) := by decide +kernel
theorem dL_law_1105 : decode cL_law 1105 = .ok (.goto (-1082), 3) := by decide +kernel
theorem dL_law_1108 : decode cL_law 1108 = .ok (.iconst 1, 1) := by decide +kernel
theorem dL_law_1109 : decode cL_law 1109 = .ok (.ireturn, 1) := by decide +kernel
end
section
/-! the words of all methods together: what the tables say and what stays -/
def AW : List Cond := lw_tbl.filter goodWord
theorem aw_tbl : ∀ w ∈ AW, w ∈ lw_tbl := fun _ h => (List.mem_filter.mp h).1
theorem aw_of {w : Cond} (h : w ∈ lw_tbl) (g : goodWord w = true) : w ∈ AW := List.mem_filter.mpr ⟨h, g⟩
theorem aw_good {w : Cond} (h : w ∈ AW) : (w.onTables && w.keeps) = true ∨ ∃ ty, w = .arrayClass ty := good_of_word (List.mem_filter.mp h).2
theorem aw_in {y : MethodName} {b : ByteArray} {n : Nat} {r : Option FieldType} (h : Cond.code y b n r ∈ AW) : GoodIn AW (.code y b n r :: AW) := fun w hw => (List.mem_cons.mp hw).elim (fun e => by subst e; exact ⟨h, aw_good h⟩) (fun hw => ⟨hw, aw_good hw⟩)
end
section
/-! THE WORLD BY NAMES: every cell that class, reference and law hold has a name, a number; kd says its kind (0: it isn't there), ad its address, v its numbers, sp the sizes of the lists. Names: 0 Stepscript, 1 dancers, 2 lifts (lists), 3 told, 4 plans, 5 6 7 its rows, 8 9 the lists' arrays, 20 + 7 i a dancer (+1 columns, +2 its moves, +3 its places, +4 rows, +5, +6), 80 + i a lift, 100 StepscriptModel, 101 .. 113 its arrays, 120 the law's own array -/
abbrev eD : Type := va_G × (Nat → ClassId)
abbrev eV : Type := Nat → Nat → Int32
def e_tys (X : eD) : List (ClassId × FieldType) := [(X.2 0, .int), (X.2 1, .object "java/lang/Object"), (X.2 2, .array .int), (X.2 3, .long)]
def e_set (v : eV) (n k : Nat) (x : Int32) : eV := fun m => if m = n then upd (v n) k x else v m
def e_rr (x : Int32) (a : Nat) : Value := if x = 0 then .null else .ref a
def e_sh (X : eD) (ad : Nat → Nat) (sp : Nat → Nat) (v : eV) (k n : Nat) : va_E := match k with
  | 1 => .inr (3, [.ref (ad (n + 1)), .ref (ad (n + 4)), .int (v n 2), .int (v n 3)])
  | 2 => .inr (5, [.int (v n 0), .ref (ad (n + 1)), .ref (ad (n + 2))])
  | 4 => .inr (4, [.int (v n 0), .int (v n 1), .int (v n 2), .int (v n 3), .int (v n 4)])
  | 5 => .inr (6, [.ref (ad 1), .ref (ad 2), .ref (ad 3), .ref (ad 4), .int (v n 4)])
  | 6 => .inr (2, [.int (v n 0), .ref (ad (sp 5)), .int (nI (sp 0))])
  | 7 => .inl (X.2 1, sp 2, .inr (.inr (.inr (.inr (fun j => if j < sp 7 then some (ad (20 + 7 * j)) else none)))))
  | 8 => .inr (2, [.int (v n 0), .ref (ad (sp 6)), .int (nI (sp 1))])
  | 9 => .inl (X.2 1, sp 3, .inr (.inr (.inr (.inr (fun j => if j < sp 8 then some (ad (80 + j)) else none)))))
  | 16 => .inl (X.2 1, sp 4, .inr (.inr (.inr (.inr (fun j => if j < sp 9 then some (ad (80 + j)) else none)))))
  | 3 => .inr (5, [.int (v n 0), e_rr (v n 21) (ad (n + 1)), e_rr (v n 22) (ad (n + 2))])
  | 13 => .inr (3, [e_rr (v n 21) (ad (n + 1)), e_rr (v n 22) (ad (n + 4)), .int (v n 2), .int (v n 3)])
  | 15 => .inr (2, [.int (v n 0), e_rr (v n 21) (ad 11), .int (v n 2)])
  | 18 => .inr (6, [e_rr (v n 21) (ad 1), e_rr (v n 22) (ad 2), e_rr (v n 23) (ad 3), e_rr (v n 24) (ad 4), .int (v n 4)])
  | 19 => .inr (7, [e_rr (v n 20) (ad 101), e_rr (v n 21) (ad 102), e_rr (v n 22) (ad 103), e_rr (v n 23) (ad 104), .int (v n 4), e_rr (v n 24) (ad 105), e_rr (v n 25) (ad 106), e_rr (v n 26) (ad 107), e_rr (v n 27) (ad 108), e_rr (v n 28) (ad 109), e_rr (v n 29) (ad 110), e_rr (v n 30) (ad 111), .int (v n 12), e_rr (v n 31) (ad 112), e_rr (v n 32) (ad 113), .int (v n 15), .int (v n 16)])
  | 10 => .inl (X.2 2, 3, .inr (.inr (.inr (.inr (fun j => if j < 3 then some (ad (5 + j)) else none)))))
  | 12 => .inr (7, [.ref (ad 101), .ref (ad 102), .ref (ad 103), .ref (ad 104), .int (v n 4), .ref (ad 105), .ref (ad 106), .ref (ad 107), .ref (ad 108), .ref (ad 109), .ref (ad 110), .ref (ad 111), .int (v n 12), .ref (ad 112), .ref (ad 113), .int (v n 15), .int (v n 16)])
  | 17 => .inl (X.2 3, 1, .inr (.inl (fun _ => (v n 0).toInt64)))
  | m + 20 => .inl (X.2 0, m, .inl (v n))
  | _ => .inl (X.2 0, 0, .inl (v n))
def e_P (X : eD) (ad kd sp : Nat → Nat) (v : eV) (H : Heap) : Prop := ∀ n, kd n ≠ 0 → va_at X.1 vwCl (ad n, e_sh X ad sp v (kd n) n) H
def e_I (z0 : Nat) (ad kd : Nat → Nat) : Prop := (∀ n m, kd n ≠ 0 → kd m ≠ 0 → ad n = ad m → n = m) ∧ ∀ n, kd n ≠ 0 → z0 ≤ ad n
def e_S (X : eD) (U : State) : Prop := va_K X.1 vwCl (e_tys X) U ∧ va_Nw (.methodLinkNest RX2 38 yX3_isMove RX3) U ∧ va_Nw (.methodLinkNest RX0 38 yX3_isOnStage RX3) U
def e_W (X : eD) (z0 : Nat) (ad kd sp : Nat → Nat) (v : eV) (U : State) : Prop := z0 ≤ U.heap.size ∧ e_P X ad kd sp v U.heap ∧ e_I z0 ad kd ∧ e_S X U
abbrev e_A (z0 : Nat) : Nat → Prop := fun q => z0 ≤ q
def e_rm (d mc ms : Nat) : Room := { frames := d, cells := mc, slots := ms, locals := 60 * d }
theorem e_S.warm {X : eD} {s U : State} (h : e_S X s) (hW : s.WarmedH U.vm) : e_S X U := ⟨va_K.moved hW.alike h.1, va_Nw.warmM hW h.2.1, va_Nw.warmM hW h.2.2⟩
theorem e_S.call {X : eD} {U : State} (h : e_S X U) (g : JFrame) (mk : MethodId) (a : Array Value) : e_S X (U.calling g mk a) := ⟨va_K.moved (u := U) (U := U.calling g mk a) (Vm.Alike.refl U.vm) h.1, va_Nw.same rfl (u := U) (U := U.calling g mk a) rfl h.2.1, va_Nw.same rfl (u := U) (U := U.calling g mk a) rfl h.2.2⟩
theorem e_W.call {X : eD} {z0 : Nat} {ad kd sp : Nat → Nat} {v : eV} {U : State} (h : e_W X z0 ad kd sp v U) (g : JFrame) (mk : MethodId) (a : Array Value) : e_W X z0 ad kd sp v (U.calling g mk a) := ⟨h.1, h.2.1, h.2.2.1, h.2.2.2.call g mk a⟩
theorem e_one {X : eD} {ad kd sp : Nat → Nat} {v : eV} {H : Heap} (hP : e_P X ad kd sp v H) {n K : Nat} (hk : kd n = K) (h0 : K ≠ 0) : va_P X.1 vwCl [(ad n, e_sh X ad sp v K n)] H := by
  intro k q hq
  match k, hq with
  | 0, hq =>
    cases hq
    subst hk
    exact hP n h0
  | k + 1, hq => simp at hq
theorem e_P.kept {X : eD} {ad kd sp : Nat → Nat} {v : eV} {H H1 : Heap} (hP : e_P X ad kd sp v H) (hq : ∀ q : Nat, q < H.size → (∃ n, kd n ≠ 0 ∧ ad n = q) → H1[q]? = H[q]?) : e_P X ad kd sp v H1 := fun n hn => (hP n hn).kept (hq _ (hP n hn).lt ⟨n, hn, rfl⟩)
/-- the shape of a cell that a write at n doesn't touch -/
theorem e_sh_ne {X : eD} {ad sp : Nat → Nat} {v : eV} {n k m K : Nat} {x : Int32} (h : m ≠ n) : e_sh X ad sp (e_set v n k x) K m = e_sh X ad sp v K m := by
  have e : e_set v n k x m = v m := by unfold e_set; rw [if_neg h]
  unfold e_sh
  rw [e]
theorem e_P.put {X : eD} {z0 : Nat} {ad kd sp : Nat → Nat} {v : eV} {H H1 : Heap} (hP : e_P X ad kd sp v H) (hI : e_I z0 ad kd) {n k : Nat} {x : Int32} (h0 : kd n ≠ 0) (he : va_at X.1 vwCl (ad n, e_sh X ad sp (e_set v n k x) (kd n) n) H1) (oq : ∀ q : Nat, q ≠ ad n → H1[q]? = H[q]?) : e_P X ad kd sp (e_set v n k x) H1 := by
  intro m hm
  by_cases h : m = n
  · subst h
    exact he
  · rw [e_sh_ne h]
    exact (hP m hm).kept (oq _ (fun z => h (hI.1 m n hm h0 z)))
section EW
variable {p : Program} {l : Launch} {e : Env} {R : Room} {s : State} {m : MethodId} {args : Array Value} {below : List Frame} {meth : Method} {c : Code} {H : Heap} {locs : List Loc} {cells slots : Nat} {Q : State → Prop}
variable {cc : ByteArray} {pc : Nat} {ls : Array Slot} {rest : List Value} {X : eD} {z0 : Nat} {ad kd sp : Nat → Nat} {v : eV} {H0 : Heap}
/-- a number on the stack by another name -/
theorem e_nrm {x y : Int32} (h : x = y) (k : W p l e R s m args below meth c H locs cells slots Q (F0 m pc ls (.int y :: rest))) : W p l e R s m args below meth c H locs cells slots Q (F0 m pc ls (.int x :: rest)) := h ▸ k
theorem e_getf (hexec : p.tables.exec = Jvm.exec) (hb : c.code = cc) (hts : ∀ w ∈ AW, w.before args s = true) {own ref C : String} {T : u_T} {N ci index : Nat} (hin : ∀ w ∈ u_ws C T N, w ∈ AW) (hown : s.vm.findClass own = some m.cls) (hK : e_S X s) (hP : e_P X ad kd sp v H) (n K : Nat) (hk : kd n = K) (h0 : K ≠ 0) {fs : List Value} (he : e_sh X ad sp v K n = .inr (ci, fs)) (hc : vwCl[ci]? = some (C, T, N)) (k : Nat) (hkN : k < N) (hlink : Cond.fieldLink own index ref (T k).2.1 (T k).2.2.1 ∈ AW) (hsame : ∀ x, s.fieldFound? (T k).1 (T k).2.1 (T k).2.2.1 = some x → s.fieldFound? ref (T k).2.1 (T k).2.2.1 = some x) {w : Value} (hv : fs[k]? = some w) (hdg : decode cc pc = .ok (.getfield index, 3))
    (kk : W p l e R s m args below meth c H locs cells slots Q (F0 m (pc + 3) ls (w :: rest))) : W p l e R s m args below meth c H locs cells slots Q (F0 m pc ls (.ref (ad n) :: rest)) :=
  va_get (D := X.1) (cl := vwCl) (tys := e_tys X) hexec hb hts hin hown hK.1 (ws := [(ad n, .inr (ci, fs))]) (by have h := e_one hP hk h0; rw [he] at h; exact h) 0 rfl hc k hkN (hts _ hlink) hsame hv hdg kk
/-- an int array's place, by its number -/
theorem e_iald (hexec : p.tables.exec = Jvm.exec) (hb : c.code = cc) (hK : e_S X s) (hP : e_P X ad kd sp v H) (n N : Nat) (hk : kd n = N + 20) {i : Int32} (j : Nat) (hi : i = nI j) (hj : j < N) (hN : N < 2 ^ 31) (hdg : decode cc pc = .ok (.iaload, 1))
    (kk : W p l e R s m args below meth c H locs cells slots Q (F0 m (pc + 1) ls (.int (v n j) :: rest))) : W p l e R s m args below meth c H locs cells slots Q (F0 m pc ls (.int i :: .ref (ad n) :: rest)) := by
  subst hi
  refine va_iald (D := X.1) (cl := vwCl) (tys := e_tys X) (cA := X.2 0) (n := N) (f := v n) hexec hb hK.1 (ws := [(ad n, e_sh X ad sp v (N + 20) n)]) (e_one hP hk (by omega)) 0 0 rfl rfl (vp_in_nI hj hN) hdg ?_
  rw [nI_clamp (by omega)]
  exact kk
theorem e_iast (hexec : p.tables.exec = Jvm.exec) (hb : c.code = cc) (hK : e_S X s) (hP : e_P X ad kd sp v H) (hI : e_I z0 ad kd) (hS : va_S (e_A z0) H0 H locs) (n N : Nat) (hk : kd n = N + 20) {i x : Int32} (j : Nat) (hi : i = nI j) (hj : j < N) (hN : N < 2 ^ 31) (hdg : decode cc pc = .ok (.iastore, 1))
    (kk : ∀ (H1 : Heap) (locs1 : List Loc), H1.size = H.size → e_P X ad kd sp (e_set v n j x) H1 → va_S (e_A z0) H0 H1 locs1 → W p l e R s m args below meth c H1 locs1 cells slots Q (F0 m (pc + 1) ls rest)) : W p l e R s m args below meth c H locs cells slots Q (F0 m pc ls (.int x :: .int i :: .ref (ad n) :: rest)) := by
  subst hi
  have hn0 : kd n ≠ 0 := by rw [hk]; omega
  have hat : H[ad n]? = some (vp_cell (X.2 0) (N, .inl (v n))) := by have h := hP n hn0; rw [hk] at h; exact h
  refine W.iast hexec hb hat ((hK.1.2 0 _ rfl).1 N (fun j => .int (v n j))) (fun q => by cases q) (by show ¬ (_ ∨ (arrV _ _ _).slots.size ≤ _); rw [arrV_size]; exact vp_in_nI hj hN) rfl rfl hdg fun H1 e1 z oq => ?_
  refine kk H1 _ z (hP.put hI hn0 ?_ oq) (hS.put z oq (hI.2 n hn0))
  rw [hk]
  show H1[ad n]? = some (vp_cell (X.2 0) (N, .inl (e_set v n j x n)))
  rw [e1, vp_cell_i, vp_cell_i, arrV_store, nI_clamp (by omega)]
  congr 2
  funext q
  unfold e_set
  rw [if_pos rfl]
  by_cases hq : q = j
  · subst hq
    simp [updV, upd]
  · simp [updV, upd, hq]
theorem e_putf (hexec : p.tables.exec = Jvm.exec) (hb : c.code = cc) (hts : ∀ w ∈ AW, w.before args s = true) {own ref C : String} {T : u_T} {N ci index : Nat} (hin : ∀ w ∈ u_ws C T N, w ∈ AW) (ty0 : Nat → FieldType) (hty : ∀ k, k < N → parseFieldDescriptor (T k).2.2.1 = some (ty0 k)) (hnm : ∀ a, a < N → ∀ b, b < N → a ≠ b → (T a).2.1 ≠ (T b).2.1) (hown : s.vm.findClass own = some m.cls) (hK : e_S X s) (hP : e_P X ad kd sp v H) (hI : e_I z0 ad kd) (hS0 : va_S (e_A z0) H0 H locs) (n K : Nat) (hk : kd n = K) (h0 : K ≠ 0) {fs : List Value} (he : e_sh X ad sp v K n = .inr (ci, fs)) (hc : vwCl[ci]? = some (C, T, N)) (k : Nat) (hkN : k < N) (hlink : Cond.fieldLink own index ref (T k).2.1 (T k).2.2.1 ∈ AW) (hsame : ∀ x, s.fieldFound? (T k).1 (T k).2.1 (T k).2.2.1 = some x → s.fieldFound? ref (T k).2.1 (T k).2.2.1 = some x) (hfin : (T k).2.2.2 = false) {ty : FieldType} {x : Int32} (hd : parseFieldDescriptor (T k).2.2.1 = some ty) (hnr : narrow ty (.int x) = .int x) (hfit : fits ty (.int x) = true) (hl : k < fs.length) (he' : e_sh X ad sp (e_set v n k x) K n = .inr (ci, fs.set k (.int x))) (hdg : decode cc pc = .ok (.putfield index, 3))
    (kk : ∀ (H1 : Heap) (locs1 : List Loc), H1.size = H.size → e_P X ad kd sp (e_set v n k x) H1 → va_S (e_A z0) H0 H1 locs1 → W p l e R s m args below meth c H1 locs1 cells slots Q (F0 m (pc + 3) ls rest)) : W p l e R s m args below meth c H locs cells slots Q (F0 m pc ls (.int x :: .ref (ad n) :: rest)) := by
  have hn0 : kd n ≠ 0 := by rw [hk]; exact h0
  have hap := va_apart (D := X.1) (cl := vwCl) (tys := e_tys X) (own := own) hts hin ty0 hty hnm hK.1 hc
  have hat := hP n hn0
  rw [hk, he] at hat
  obtain ⟨r, h1, cell, q1, q2, q3, q4⟩ := hat
  have hr : r = (C, T, N) := Option.some.inj (h1.symm.trans hc)
  subst hr
  obtain ⟨hSl, hfc, kC, hkC, hkind⟩ := hK.1.1 ci _ hc
  obtain ⟨cf, kf, fi, f, hi, hsl⟩ := hSl k hkN
  have hlay := hts _ (hin _ (u_in_lay hkN))
  unfold u_lay at hlay
  rw [if_neg (by rw [hfin]; decide)] at hlay
  have hst := (u_facts hfc hkC (u_lays hts hin hkN) hi).1
  have h6 := u_store hfc hkC hkind hlay hi hd hnr hfit
  refine W.putK hexec hb (f := f) ⟨hown, hts _ hlink, ⟨_, _, _, hsame _ hi⟩, hst⟩ (by rw [q2]; exact h6) q1 q3 (by rw [hsl]; exact k2_hasslot (q4 k hkN)) rfl rfl hdg fun H' e1 e2 e3 => ?_
  rw [hsl] at e1
  refine kk H' _ e2 (hP.put hI hn0 ?_ e3) (hS0.put e2 e3 (hI.2 n hn0))
  rw [hk, he']
  exact ⟨_, hc, t_OB.to (V := updV (vp_V fs) k (.int x)) ⟨_, e1, q2, q3, t_set q4 hap hkN (.int x)⟩ (fun j _ => vp_updV_set hl (.int x) j)⟩
end EW
/-! METHODS THAT WRITE NOTHING: the answer is 'val', the heap is as before -/
def bI (b : Bool) : Int32 := if b = true then 1 else 0
theorem bI_0 {b : Bool} : bI b = 0 ↔ b = false := by cases b <;> simp [bI]
theorem bI_n0 {b : Bool} : ¬ bI b = 0 ↔ b = true := by cases b <;> simp [bI]
theorem bI_nar (b : Bool) : narrow .boolean (.int (bI b)) = .int (bI b) := by cases b <;> rfl
theorem bI_t : bI true = 1 := rfl
theorem bI_f : bI false = 0 := rfl
def eS (ov : Option Value) : Array Value → State → Outcome → State → Prop := fun _ st o t => o = .returned ov ∧ t.heap = st.heap
abbrev ePu (l : Launch) (y : MethodName) (b : ByteArray) (n : Nat) (r : Option FieldType) (d : Nat) (av : List Value) (B : State → Prop) (ov : Option Value) : Prop := Met l y (.code y b n r :: AW) (e_rm d 0 0) (va_Pc av B) (eS ov) 0 0 (fun _ => False)
theorem e_pureI {l : Launch} {y : MethodName} {cc : ByteArray} {n d : Nat} {ty : FieldType} {av : List Value} {B : State → Prop} {val : Int32} (hy : plainName y.cls = true) (hav : (lg_sl av).length ≤ n) (hn : narrow ty (.int val) = .int val)
    (body : ∀ (p : Program) (e : Env) (s : State) (m : MethodId) (args : Array Value) (below : List Frame) (meth : Method) (c : Code), p.tables.exec = Jvm.exec → c.code = cc → c.maxLocals = n → s.vm.findClass y.cls = some m.cls → (∀ w ∈ AW, w.before args s = true) → B s → ∀ Q : State → Prop, (∀ (pc : Nat) (ls : Array Slot), decode cc pc = .ok (.ireturn, 1) → W p l e (e_rm d 0 0) s m args below meth c s.heap [] 0 0 Q (F0 m pc ls [.int val])) → ∀ ls : Array Slot, lv_has ls n (lv_args 0 av) → W p l e (e_rm d 0 0) s m args below meth c s.heap [] 0 0 Q (F0 m 0 ls [])) : ePu l y cc n (some ty) d av B (some (.int val)) := by
  refine Met.ofW (cc := cc) (maxL := n) (ret := some ty) hy rfl ?_
  intro p e s m args below meth c s₁ Bd hml hv
  obtain ⟨rfl, hB⟩ := hv
  have hts := atoms_spec (ws := .code y cc n (some ty) :: AW) Bd.pre
  have hlocks := Bd.notSynchronized
  rw [lg_entry_eq]
  exact body p e s m _ below meth c Bd.exec Bd.bytes hml (findClass_of_methodNamed Bd.named) (fun w hw => hts w (List.mem_cons_of_mem _ hw)) hB _ (fun pc ls hd => W.zret Bd.exec Bd.bytes Bd.returns hn (fun t ht _ => ⟨rfl, ht⟩) (fun _ h => by cases h) hd hlocks) _ (lv_entry av hav)
theorem e_pureR {l : Launch} {y : MethodName} {cc : ByteArray} {n d : Nat} {ty : FieldType} {av : List Value} {B : State → Prop} {val : Nat} (hy : plainName y.cls = true) (hav : (lg_sl av).length ≤ n) (hrt : (∃ n, ty = .object n) ∨ ∃ t, ty = .array t)
    (body : ∀ (p : Program) (e : Env) (s : State) (m : MethodId) (args : Array Value) (below : List Frame) (meth : Method) (c : Code), p.tables.exec = Jvm.exec → c.code = cc → c.maxLocals = n → s.vm.findClass y.cls = some m.cls → (∀ w ∈ AW, w.before args s = true) → B s → ∀ Q : State → Prop, (∀ (pc : Nat) (ls : Array Slot), decode cc pc = .ok (.areturn, 1) → W p l e (e_rm d 0 0) s m args below meth c s.heap [] 0 0 Q (F0 m pc ls [.ref val])) → ∀ ls : Array Slot, lv_has ls n (lv_args 0 av) → W p l e (e_rm d 0 0) s m args below meth c s.heap [] 0 0 Q (F0 m 0 ls [])) : ePu l y cc n (some ty) d av B (some (.ref val)) := by
  refine Met.ofW (cc := cc) (maxL := n) (ret := some ty) hy rfl ?_
  intro p e s m args below meth c s₁ Bd hml hv
  obtain ⟨rfl, hB⟩ := hv
  have hts := atoms_spec (ws := .code y cc n (some ty) :: AW) Bd.pre
  have hlocks := Bd.notSynchronized
  rw [lg_entry_eq]
  exact body p e s m _ below meth c Bd.exec Bd.bytes hml (findClass_of_methodNamed Bd.named) (fun w hw => hts w (List.mem_cons_of_mem _ hw)) hB _ (fun pc ls hd => W.aret Bd.exec Bd.bytes Bd.returns hrt (Or.inr ⟨_, rfl⟩) (fun t ht _ => ⟨rfl, ht⟩) (fun _ h => by cases h) hd hlocks) _ (lv_entry av hav)
/-- the words of a call -/
def e_cwV (own : String) (idx : Nat) (C : String) (y : MethodName) (b : ByteArray) (n : Nat) (r : Option FieldType) (k : Nat) : Prop := Cond.methodLink own idx y ∈ AW ∧ Cond.instanceMethod y ∈ AW ∧ Cond.selects C y y ∈ AW ∧ Cond.initialized C ∈ AW ∧ Cond.code y b n r ∈ AW ∧ y.cls = C ∧ y.cls ≠ "java/lang/invoke/MethodHandle" ∧ y.cls ≠ "java/lang/invoke/VarHandle" ∧ (parseMethodDescriptor y.desc).map (fun d => d.parameters.length) = some k
def e_cwS (own : String) (idx : Nat) (y : MethodName) (b : ByteArray) (n : Nat) (r : Option FieldType) (k : Nat) : Prop := Cond.methodLink own idx y ∈ AW ∧ Cond.static y ∈ AW ∧ Cond.initialized y.cls ∈ AW ∧ Cond.code y b n r ∈ AW ∧ y.cls ≠ "java/lang/invoke/MethodHandle" ∧ y.cls ≠ "java/lang/invoke/VarHandle" ∧ (parseMethodDescriptor y.desc).map (fun d => d.parameters.length) = some k
theorem e_cwV.use {own : String} {idx : Nat} {C : String} {y : MethodName} {b : ByteArray} {n : Nat} {r : Option FieldType} {k : Nat} (h : e_cwV own idx C y b n r k) {s : State} {args : Array Value} {R rm : Room} {mc ms : Nat} (hts : ∀ w ∈ AW, w.before args s = true) (h1 : rm.cells = mc) (h2 : rm.slots = ms) (h3 : rm.frames + 1 ≤ R.frames) (h4 : 8 + (n + 11) + rm.locals ≤ R.locals) : CallW R s args own C idx y b n r (.code y b n r :: AW) rm mc ms k := by
  obtain ⟨a1, a2, a3, a4, a5, rfl, a7, a8, a9⟩ := h
  exact ⟨callB_of k hts (aw_in a5) rfl h1 h2 (hts _ a4) (hts _ a1) ⟨a7, a8, a9⟩ ⟨h3, h4⟩, hts _ a2, hts _ a3⟩
theorem e_cwS.use {own : String} {idx : Nat} {y : MethodName} {b : ByteArray} {n : Nat} {r : Option FieldType} {k : Nat} (h : e_cwS own idx y b n r k) {s : State} {args : Array Value} {R rm : Room} {mc ms : Nat} (hts : ∀ w ∈ AW, w.before args s = true) (h1 : rm.cells = mc) (h2 : rm.slots = ms) (h3 : rm.frames + 1 ≤ R.frames) (h4 : 8 + (n + 11) + rm.locals ≤ R.locals) : CallB R s args own idx y b n r (.code y b n r :: AW) rm mc ms k ∧ (Cond.static y).before args s = true := by
  obtain ⟨a1, a2, a4, a5, a7, a8, a9⟩ := h
  exact ⟨callB_of k hts (aw_in a5) rfl h1 h2 (hts _ a4) (hts _ a1) ⟨a7, a8, a9⟩ ⟨h3, h4⟩, hts _ a2⟩
section EC
variable {p : Program} {l : Launch} {e : Env} {R : Room} {s : State} {m : MethodId} {args : Array Value} {below : List Frame} {meth : Method} {c : Code} {H : Heap} {locs : List Loc} {cells slots : Nat} {Q : State → Prop}
variable {cc : ByteArray} {pc nL : Nat} {ls : Array Slot} {rest st : List Value} {X : eD} {z0 : Nat} {ad kd sp : Nat → Nat} {v : eV}
theorem e_runS {ov : Option Value} {a : Array Value} {st0 : List Value} (hr : va_Run p l e R s m args below meth c H locs cells slots 0 0 (F0 m pc ls st0) rest (eS ov a) (fun _ => False))
    (kk : W p l e R s m args below meth c H locs cells slots Q (F0 m (pc + 3) ls (ov.toList ++ rest))) : W p l e R s m args below meth c H locs cells slots Q (F0 m pc ls st0) := by
  intro T hT X
  obtain ⟨v, st₀, t, T', L, h0, X', hL, e1, -, ⟨hv, hh⟩, st⟩ := hr T hT X
  cases hv
  obtain ⟨t2, a1, b1⟩ := kk T' (by rw [e1, hh, h0]) (Stand.forget X' (fun q h => (hL q h).elim))
  exact ⟨t2, st t2 a1, b1⟩
theorem e_recv (hK : e_S X s) (hP : e_P X ad kd sp v H) {n K : Nat} (hk : kd n = K) (h0 : K ≠ 0) {ci : Nat} {fs : List Value} (he : e_sh X ad sp v K n = .inr (ci, fs)) {C : String} {T : u_T} {N : Nat} (hc : vwCl[ci]? = some (C, T, N)) : ∃ cell : Cell, H[ad n]? = some cell ∧ cell.vm.isStatics = false ∧ s.vm.findClass C = some cell.cls := by
  have h := e_one hP hk h0
  rw [he] at h
  exact va_recv hK.1 h hc (q0 := 0) rfl
/-- a call of an instance method that writes nothing -/
theorem e_cV (hx : p.tables.exec = Jvm.exec) (hb : c.code = cc) (hml : c.maxLocals = nL) {own : String} (hown : s.vm.findClass own = some m.cls) (hts : ∀ w ∈ AW, w.before args s = true) {y : MethodName} {b : ByteArray} {n idx k d : Nat} {r : Option FieldType} {C : String} {As : List Value} {ov : Option Value} (nm : Nat) (hM : ePu l y b n r d (.ref (ad nm) :: As) (e_W X z0 ad kd sp v) ov) (cw : e_cwV own idx C y b n r k) (hf : d + 1 ≤ R.frames) (hlo : 8 + (n + 11) + 60 * d ≤ R.locals) (hz : z0 ≤ H.size) (hP : e_P X ad kd sp v H) (hI : e_I z0 ad kd) (hK : e_S X s) {K : Nat} (hk : kd nm = K) (h0 : K ≠ 0) {ci : Nat} {fs : List Value} (he : e_sh X ad sp v K nm = .inr (ci, fs)) {T : u_T} {N : Nat} (hc : vwCl[ci]? = some (C, T, N)) (hn : As.length = k) (hsz : ls.size = nL) (hst : st = As.reverse ++ .ref (ad nm) :: rest) (hW : (rest.map fun v => v.category).sum ≤ 8) (hfc : cells + 0 ≤ R.cells ∧ slots + 0 ≤ R.slots) (hdg : decode cc pc = .ok (.invokevirtual idx, 3))
    (kk : W p l e R s m args below meth c H locs cells slots Q (F0 m (pc + 3) ls (ov.toList ++ rest))) : W p l e R s m args below meth c H locs cells slots Q (F0 m pc ls st) :=
  e_runS (va_runV (As := As) (rest := rest) ⟨hx, hb, hml, hown, hts⟩ hM (cw.use hts rfl rfl hf hlo) ⟨fun a U g mk q => ⟨q.1, q.2.call g mk a⟩, e_recv hK hP hk h0 he hc, fun U hU hW => ⟨rfl, by rw [hU]; exact hz, by rw [hU]; exact hP, hI, hK.warm hW⟩⟩ rfl hn hsz hst (lv_room hW) hdg hfc) kk
theorem e_cS (hx : p.tables.exec = Jvm.exec) (hb : c.code = cc) (hml : c.maxLocals = nL) {own : String} (hown : s.vm.findClass own = some m.cls) (hts : ∀ w ∈ AW, w.before args s = true) {y : MethodName} {b : ByteArray} {n idx k d : Nat} {r : Option FieldType} {As : List Value} {ov : Option Value} (hM : ePu l y b n r d As (e_W X z0 ad kd sp v) ov) (cw : e_cwS own idx y b n r k) (hf : d + 1 ≤ R.frames) (hlo : 8 + (n + 11) + 60 * d ≤ R.locals) (hz : z0 ≤ H.size) (hP : e_P X ad kd sp v H) (hI : e_I z0 ad kd) (hK : e_S X s) (hn : As.length = k) (hsz : ls.size = nL) (hst : st = As.reverse ++ rest) (hW : (rest.map fun v => v.category).sum ≤ 8) (hfc : cells + 0 ≤ R.cells ∧ slots + 0 ≤ R.slots) (hdg : decode cc pc = .ok (.invokestatic idx, 3))
    (kk : W p l e R s m args below meth c H locs cells slots Q (F0 m (pc + 3) ls (ov.toList ++ rest))) : W p l e R s m args below meth c H locs cells slots Q (F0 m pc ls st) :=
  e_runS (va_runS (As := As) (rest := rest) ⟨hx, hb, hml, hown, hts⟩ hM (cw.use hts rfl rfl hf hlo) ⟨fun a U g mk q => ⟨q.1, q.2.call g mk a⟩, fun U hU hW => ⟨rfl, by rw [hU]; exact hz, by rw [hU]; exact hP, hI, hK.warm hW⟩⟩ rfl hn hsz hst (lv_room hW) hdg hfc) kk
end EC
end
section
/-! METHODS THAT WRITE, and make no cell: the numbers behind them are v' -/
def eM (X : eD) (z0 : Nat) (ad kd sp : Nat → Nat) (ov : Option Value) (v' : eV) : Array Value → State → Outcome → State → Prop := fun _ st o t => o = .returned ov ∧ e_P X ad kd sp v' t.heap ∧ va_F (e_A z0) st t
abbrev eMu (l : Launch) (y : MethodName) (b : ByteArray) (n : Nat) (r : Option FieldType) (d : Nat) (av : List Value) (X : eD) (z0 : Nat) (ad kd sp : Nat → Nat) (v : eV) (ov : Option Value) (v' : eV) : Prop := Met l y (.code y b n r :: AW) (e_rm d 0 0) (va_Pc av (e_W X z0 ad kd sp v)) (eM X z0 ad kd sp ov v') 0 0 (e_A z0)
theorem e_mutI {l : Launch} {y : MethodName} {cc : ByteArray} {n d : Nat} {ty : FieldType} {av : List Value} {X : eD} {z0 : Nat} {ad kd sp : Nat → Nat} {v v' : eV} {val : Int32} (hy : plainName y.cls = true) (hav : (lg_sl av).length ≤ n) (hn : narrow ty (.int val) = .int val)
    (body : ∀ (p : Program) (e : Env) (s : State) (m : MethodId) (args : Array Value) (below : List Frame) (meth : Method) (c : Code), p.tables.exec = Jvm.exec → c.code = cc → c.maxLocals = n → s.vm.findClass y.cls = some m.cls → (∀ w ∈ AW, w.before args s = true) → e_W X z0 ad kd sp v s → ∀ Q : State → Prop, (∀ (H : Heap) (locs : List Loc) (pc : Nat) (ls : Array Slot) (w : eV) (r : Int32), r = val → w = v' → e_P X ad kd sp w H → va_S (e_A z0) s.heap H locs → decode cc pc = .ok (.ireturn, 1) → W p l e (e_rm d 0 0) s m args below meth c H locs 0 0 Q (F0 m pc ls [.int r])) → ∀ ls : Array Slot, lv_has ls n (lv_args 0 av) → W p l e (e_rm d 0 0) s m args below meth c s.heap [] 0 0 Q (F0 m 0 ls [])) : eMu l y cc n (some ty) d av X z0 ad kd sp v (some (.int val)) v' := by
  refine Met.ofW (cc := cc) (maxL := n) (ret := some ty) hy rfl ?_
  intro p e s m args below meth c s₁ Bd hml hv
  obtain ⟨rfl, hB⟩ := hv
  have hts := atoms_spec (ws := .code y cc n (some ty) :: AW) Bd.pre
  have hlocks := Bd.notSynchronized
  rw [lg_entry_eq]
  exact body p e s m _ below meth c Bd.exec Bd.bytes hml (findClass_of_methodNamed Bd.named) (fun w hw => hts w (List.mem_cons_of_mem _ hw)) hB _ (fun H locs pc ls w r hr hw hP hS hd => by subst hr; subst hw; exact W.zret Bd.exec Bd.bytes Bd.returns hn (fun t ht _ => ⟨rfl, by rw [ht]; exact hP, hS.F ht⟩) hS.2.2 hd hlocks) _ (lv_entry av hav)
theorem e_mutV {l : Launch} {y : MethodName} {cc : ByteArray} {n d : Nat} {av : List Value} {X : eD} {z0 : Nat} {ad kd sp : Nat → Nat} {v v' : eV} (hy : plainName y.cls = true) (hav : (lg_sl av).length ≤ n)
    (body : ∀ (p : Program) (e : Env) (s : State) (m : MethodId) (args : Array Value) (below : List Frame) (meth : Method) (c : Code), p.tables.exec = Jvm.exec → c.code = cc → c.maxLocals = n → s.vm.findClass y.cls = some m.cls → (∀ w ∈ AW, w.before args s = true) → e_W X z0 ad kd sp v s → ∀ Q : State → Prop, (∀ (H : Heap) (locs : List Loc) (pc : Nat) (ls : Array Slot) (w : eV), w = v' → e_P X ad kd sp w H → va_S (e_A z0) s.heap H locs → decode cc pc = .ok (.return_, 1) → W p l e (e_rm d 0 0) s m args below meth c H locs 0 0 Q (F0 m pc ls [])) → ∀ ls : Array Slot, lv_has ls n (lv_args 0 av) → W p l e (e_rm d 0 0) s m args below meth c s.heap [] 0 0 Q (F0 m 0 ls [])) : eMu l y cc n none d av X z0 ad kd sp v none v' := by
  refine Met.ofW (cc := cc) (maxL := n) (ret := none) hy rfl ?_
  intro p e s m args below meth c s₁ Bd hml hv
  obtain ⟨rfl, hB⟩ := hv
  have hts := atoms_spec (ws := .code y cc n none :: AW) Bd.pre
  have hlocks := Bd.notSynchronized
  rw [lg_entry_eq]
  exact body p e s m _ below meth c Bd.exec Bd.bytes hml (findClass_of_methodNamed Bd.named) (fun w hw => hts w (List.mem_cons_of_mem _ hw)) hB _ (fun H locs pc ls w hw hP hS hd => by subst hw; exact W.vret Bd.exec Bd.bytes Bd.returns (fun t ht _ => ⟨rfl, by rw [ht]; exact hP, hS.F ht⟩) hS.2.2 hd hlocks) _ (lv_entry av hav)
section EM
variable {p : Program} {l : Launch} {e : Env} {R : Room} {s : State} {m : MethodId} {args : Array Value} {below : List Frame} {meth : Method} {c : Code} {H : Heap} {locs : List Loc} {cells slots : Nat} {Q : State → Prop}
variable {cc : ByteArray} {pc nL : Nat} {ls : Array Slot} {rest st : List Value} {X : eD} {z0 : Nat} {ad kd sp : Nat → Nat} {v v' : eV} {H0 : Heap}
theorem e_runM {ov : Option Value} {a : Array Value} {st0 : List Value} (hr : va_Run p l e R s m args below meth c H locs cells slots 0 0 (F0 m pc ls st0) rest (eM X z0 ad kd sp ov v' a) (e_A z0)) (hz : z0 ≤ H.size) (hS : va_S (e_A z0) H0 H locs)
    (kk : ∀ (H1 : Heap) (locs1 : List Loc), z0 ≤ H1.size → e_P X ad kd sp v' H1 → va_S (e_A z0) H0 H1 locs1 → W p l e R s m args below meth c H1 locs1 cells slots Q (F0 m (pc + 3) ls (ov.toList ++ rest))) : W p l e R s m args below meth c H locs cells slots Q (F0 m pc ls st0) := by
  intro T hT X
  obtain ⟨v, st₀, t, T', L, h0, X', hL, e1, -, ⟨hv, hh, hF⟩, st⟩ := hr T hT X
  cases hv
  obtain ⟨hz1, hk⟩ := hF
  rw [h0] at hz1 hk
  obtain ⟨t2, a1, b1⟩ := kk T'.heap (locs ++ L) (by rw [e1]; exact Nat.le_trans hz hz1) (by rw [e1]; exact hh) ⟨Nat.le_trans hS.1 (by rw [e1]; exact hz1), fun q h1 h2 => by rw [e1, hk q (Nat.lt_of_lt_of_le h1 hS.1) h2]; exact hS.2.1 q h1 h2, fun q hq => (List.mem_append.mp hq).elim (hS.2.2 q) (hL q)⟩ T' rfl X'
  exact ⟨t2, st t2 a1, b1⟩
theorem e_cVM (hx : p.tables.exec = Jvm.exec) (hb : c.code = cc) (hml : c.maxLocals = nL) {own : String} (hown : s.vm.findClass own = some m.cls) (hts : ∀ w ∈ AW, w.before args s = true) {y : MethodName} {b : ByteArray} {n idx k d : Nat} {r : Option FieldType} {C : String} {As : List Value} {ov : Option Value} (nm : Nat) (hM : eMu l y b n r d (.ref (ad nm) :: As) X z0 ad kd sp v ov v') (cw : e_cwV own idx C y b n r k) (hf : d + 1 ≤ R.frames) (hlo : 8 + (n + 11) + 60 * d ≤ R.locals) (hz : z0 ≤ H.size) (hP : e_P X ad kd sp v H) (hI : e_I z0 ad kd) (hK : e_S X s) (hS : va_S (e_A z0) H0 H locs) {K : Nat} (hk : kd nm = K) (h0 : K ≠ 0) {ci : Nat} {fs : List Value} (he : e_sh X ad sp v K nm = .inr (ci, fs)) {T : u_T} {N : Nat} (hc : vwCl[ci]? = some (C, T, N)) (hn : As.length = k) (hsz : ls.size = nL) (hst : st = As.reverse ++ .ref (ad nm) :: rest) (hW : (rest.map fun v => v.category).sum ≤ 8) (hfc : cells + 0 ≤ R.cells ∧ slots + 0 ≤ R.slots) (hdg : decode cc pc = .ok (.invokevirtual idx, 3))
    (kk : ∀ (H1 : Heap) (locs1 : List Loc), z0 ≤ H1.size → e_P X ad kd sp v' H1 → va_S (e_A z0) H0 H1 locs1 → W p l e R s m args below meth c H1 locs1 cells slots Q (F0 m (pc + 3) ls (ov.toList ++ rest))) : W p l e R s m args below meth c H locs cells slots Q (F0 m pc ls st) :=
  e_runM (va_runV (As := As) (rest := rest) ⟨hx, hb, hml, hown, hts⟩ hM (cw.use hts rfl rfl hf hlo) ⟨fun a U g mk q => ⟨q.1, q.2.call g mk a⟩, e_recv hK hP hk h0 he hc, fun U hU hW => ⟨rfl, by rw [hU]; exact hz, by rw [hU]; exact hP, hI, hK.warm hW⟩⟩ rfl hn hsz hst (lv_room hW) hdg hfc) hz hS kk
end EM
end
section
theorem e_dec {i : Nat} (h : 1 ≤ i) : nI i + Int32.ofInt (-1) = nI (i - 1) := by
  rw [← pk_sub (a := i) (b := 1) h, Int32.sub_eq_add_neg]
  rfl
theorem e_pureL {l : Launch} {y : MethodName} {cc : ByteArray} {n d : Nat} {av : List Value} {B : State → Prop} {val : Int64} (hy : plainName y.cls = true) (hav : (lg_sl av).length ≤ n)
    (body : ∀ (p : Program) (e : Env) (s : State) (m : MethodId) (args : Array Value) (below : List Frame) (meth : Method) (c : Code), p.tables.exec = Jvm.exec → c.code = cc → c.maxLocals = n → s.vm.findClass y.cls = some m.cls → (∀ w ∈ AW, w.before args s = true) → B s → ∀ Q : State → Prop, (∀ (pc : Nat) (ls : Array Slot), decode cc pc = .ok (.lreturn, 1) → W p l e (e_rm d 0 0) s m args below meth c s.heap [] 0 0 Q (F0 m pc ls [.long val])) → ∀ ls : Array Slot, lv_has ls n (lv_args 0 av) → W p l e (e_rm d 0 0) s m args below meth c s.heap [] 0 0 Q (F0 m 0 ls [])) : ePu l y cc n (some .long) d av B (some (.long val)) := by
  refine Met.ofW (cc := cc) (maxL := n) (ret := some .long) hy rfl ?_
  intro p e s m args below meth c s₁ Bd hml hv
  obtain ⟨rfl, hB⟩ := hv
  have hts := atoms_spec (ws := .code y cc n (some .long) :: AW) Bd.pre
  have hlocks := Bd.notSynchronized
  rw [lg_entry_eq]
  exact body p e s m _ below meth c Bd.exec Bd.bytes hml (findClass_of_methodNamed Bd.named) (fun w hw => hts w (List.mem_cons_of_mem _ hw)) hB _ (fun pc ls hd => W.lret Bd.exec Bd.bytes Bd.returns (fun t ht _ => ⟨rfl, ht⟩) (fun _ h => by cases h) hd hlocks) _ (lv_entry av hav)
section EF
variable {p : Program} {l : Launch} {e : Env} {R : Room} {s : State} {m : MethodId} {args : Array Value} {below : List Frame} {meth : Method} {c : Code} {H : Heap} {locs : List Loc} {cells slots : Nat} {Q : State → Prop}
variable {cc : ByteArray} {pc nL : Nat} {ls : Array Slot} {rest st : List Value} {X : eD} {z0 : Nat} {ad kd sp : Nat → Nat} {v v' : eV} {H0 : Heap}
theorem e_nrml {x y : Int64} (h : x = y) (k : W p l e R s m args below meth c H locs cells slots Q (F0 m pc ls (.long y :: rest))) : W p l e R s m args below meth c H locs cells slots Q (F0 m pc ls (.long x :: rest)) := h ▸ k
/-- an array of references, read -/
theorem e_aald (hexec : p.tables.exec = Jvm.exec) (hb : c.code = cc) (hK : e_S X s) (hP : e_P X ad kd sp v H) (n K : Nat) (hk : kd n = K) (h0 : K ≠ 0) {cA : ClassId} {N : Nat} {f : Nat → Option Nat} (he : e_sh X ad sp v K n = .inl (cA, N, .inr (.inr (.inr (.inr f))))) (t0 : Nat) {ty : FieldType} (ht : (e_tys X)[t0]? = some (cA, ty)) (hty : ty = .object "java/lang/Object" ∨ ty = .array .int) {i : Int32} (j : Nat) (hi : i = nI j) (hj : j < N) (hN : N < 2 ^ 31) {q : Nat} (hq : f j = some q) (hdg : decode cc pc = .ok (.aaload, 1))
    (kk : W p l e R s m args below meth c H locs cells slots Q (F0 m (pc + 1) ls (.ref q :: rest))) : W p l e R s m args below meth c H locs cells slots Q (F0 m pc ls (.int i :: .ref (ad n) :: rest)) := by
  subst hi
  have hat := e_one hP hk h0 0 _ rfl
  rw [he] at hat
  have hcl : (nI j).toNatClampNeg = j := nI_clamp (by omega)
  have hrd : (vp_cell cA (N, .inr (.inr (.inr (.inr f))))).slots[(nI j).toNatClampNeg]? = some (.ref q) := by
    rw [hcl]
    show (arrV _ _ _).slots[_]? = _
    rw [arrV_read _ _ hj]
    show some (va_rf (f j)) = _
    rw [hq]
    rfl
  have hin : ¬ (nI j < 0 ∨ (vp_cell cA (N, .inr (.inr (.inr (.inr f))))).slots.size ≤ (nI j).toNatClampNeg) := by
    show ¬ (_ ∨ (arrV _ _ _).slots.size ≤ _)
    rw [arrV_size]
    exact vp_in_nI hj hN
  rcases hty with rfl | rfl
  · exact W.aald (v := .ref q) (ty := .object "java/lang/Object") hexec hb hat ((hK.1.2 t0 _ ht).1 N (fun j => va_rf (f j))) rfl (fun z => by cases z) hin hrd rfl rfl hdg kk
  · exact W.aald (v := .ref q) (ty := .array .int) hexec hb hat ((hK.1.2 t0 _ ht).1 N (fun j => va_rf (f j))) rfl (fun z => by cases z) hin hrd rfl rfl hdg kk
theorem e_alen (hexec : p.tables.exec = Jvm.exec) (hb : c.code = cc) (hK : e_S X s) (hP : e_P X ad kd sp v H) (n N : Nat) (hk : kd n = N + 20) (hdg : decode cc pc = .ok (.arraylength, 1))
    (kk : W p l e R s m args below meth c H locs cells slots Q (F0 m (pc + 1) ls (.int (nI N) :: rest))) : W p l e R s m args below meth c H locs cells slots Q (F0 m pc ls (.ref (ad n) :: rest)) := by
  refine va_alen (D := X.1) (cl := vwCl) (tys := e_tys X) (cA := X.2 0) (x := (N, .inl (v n))) hexec hb hK.1 (ws := [(ad n, e_sh X ad sp v (N + 20) n)]) (e_one hP hk (by omega)) 0 0 rfl rfl rfl hdg ?_
  exact kk
theorem e_cast (hexec : p.tables.exec = Jvm.exec) (hb : c.code = cc) (hts : ∀ w ∈ AW, w.before args s = true) {own nm : String} {index : Nat} (hown : s.vm.findClass own = some m.cls) (hK : e_S X s) (hP : e_P X ad kd sp v H) (n K : Nat) (hk : kd n = K) (h0 : K ≠ 0) {ci : Nat} {fs : List Value} (he : e_sh X ad sp v K n = .inr (ci, fs)) {T : u_T} {N : Nat} (hc : vwCl[ci]? = some (nm, T, N)) (hlink : Cond.classLink own index nm ∈ AW) (hdg : decode cc pc = .ok (.checkcast index, 3))
    (kk : W p l e R s m args below meth c H locs cells slots Q (F0 m (pc + 3) ls (.ref (ad n) :: rest))) : W p l e R s m args below meth c H locs cells slots Q (F0 m pc ls (.ref (ad n) :: rest)) :=
  va_castS hexec hb hown (hts _ hlink) (hK.1.1 ci _ hc).2 (e_recv hK hP hk h0 he hc) hdg kk
theorem e_cSM (hx : p.tables.exec = Jvm.exec) (hb : c.code = cc) (hml : c.maxLocals = nL) {own : String} (hown : s.vm.findClass own = some m.cls) (hts : ∀ w ∈ AW, w.before args s = true) {y : MethodName} {b : ByteArray} {n idx k d : Nat} {r : Option FieldType} {As : List Value} {ov : Option Value} (hM : eMu l y b n r d As X z0 ad kd sp v ov v') (cw : e_cwS own idx y b n r k) (hf : d + 1 ≤ R.frames) (hlo : 8 + (n + 11) + 60 * d ≤ R.locals) (hz : z0 ≤ H.size) (hP : e_P X ad kd sp v H) (hI : e_I z0 ad kd) (hK : e_S X s) (hS : va_S (e_A z0) H0 H locs) (hn : As.length = k) (hsz : ls.size = nL) (hst : st = As.reverse ++ rest) (hW : (rest.map fun v => v.category).sum ≤ 8) (hfc : cells + 0 ≤ R.cells ∧ slots + 0 ≤ R.slots) (hdg : decode cc pc = .ok (.invokestatic idx, 3))
    (kk : ∀ (H1 : Heap) (locs1 : List Loc), z0 ≤ H1.size → e_P X ad kd sp v' H1 → va_S (e_A z0) H0 H1 locs1 → W p l e R s m args below meth c H1 locs1 cells slots Q (F0 m (pc + 3) ls (ov.toList ++ rest))) : W p l e R s m args below meth c H locs cells slots Q (F0 m pc ls st) :=
  e_runM (va_runS (As := As) (rest := rest) ⟨hx, hb, hml, hown, hts⟩ hM (cw.use hts rfl rfl hf hlo) ⟨fun a U g mk q => ⟨q.1, q.2.call g mk a⟩, fun U hU hW => ⟨rfl, by rw [hU]; exact hz, by rw [hU]; exact hP, hI, hK.warm hW⟩⟩ rfl hn hsz hst (lv_room hW) hdg hfc) hz hS kk
/-- nest mates: a private static method of the outer class that writes nothing -/
theorem e_cSN (hx : p.tables.exec = Jvm.exec) (hb : c.code = cc) (hml : c.maxLocals = nL) {own host : String} (hown : s.vm.findClass own = some m.cls) (hts : ∀ w ∈ AW, w.before args s = true) {y : MethodName} {b : ByteArray} {n idx k d : Nat} {r : Option FieldType} {As : List Value} {ov : Option Value} (hM : ePu l y b n r d As (e_W X z0 ad kd sp v) ov) (hnw : va_Nw (.methodLinkNest own idx y host) s) (h2 : Cond.static y ∈ AW) (h4 : Cond.initialized y.cls ∈ AW) (h5 : Cond.code y b n r ∈ AW) (hd : y.cls ≠ "java/lang/invoke/MethodHandle" ∧ y.cls ≠ "java/lang/invoke/VarHandle" ∧ (parseMethodDescriptor y.desc).map (fun d => d.parameters.length) = some k) (hf : d + 1 ≤ R.frames) (hlo : 8 + (n + 11) + 60 * d ≤ R.locals) (hz : z0 ≤ H.size) (hP : e_P X ad kd sp v H) (hI : e_I z0 ad kd) (hK : e_S X s) (hn : As.length = k) (hsz : ls.size = nL) (hst : st = As.reverse ++ rest) (hW : (rest.map fun v => v.category).sum ≤ 8) (hfc : cells + 0 ≤ R.cells ∧ slots + 0 ≤ R.slots) (hdg : decode cc pc = .ok (.invokestatic idx, 3))
    (kk : W p l e R s m args below meth c H locs cells slots Q (F0 m (pc + 3) ls (ov.toList ++ rest))) : W p l e R s m args below meth c H locs cells slots Q (F0 m pc ls st) :=
  e_runS (va_runSN (As := As) (rest := rest) ⟨hx, hb, hml, hown, hts⟩ hM ⟨va_cnB k hts (aw_in h5) rfl rfl rfl hnw (hts _ h4) hd ⟨hf, hlo⟩, hts _ h2, trivial⟩ ⟨fun a U g mk q => ⟨q.1, q.2.call g mk a⟩, fun U hU hW => ⟨rfl, by rw [hU]; exact hz, by rw [hU]; exact hP, hI, hK.warm hW⟩⟩ rfl hn hsz hst (lv_room hW) hdg hfc) kk
end EF
section EG
variable {p : Program} {l : Launch} {e : Env} {R : Room} {s : State} {m : MethodId} {args : Array Value} {below : List Frame} {meth : Method} {c : Code} {H : Heap} {locs : List Loc} {cells slots : Nat} {Q : State → Prop} {pc : Nat} {ls : Array Slot} {rest : List Value} {ad : Nat → Nat}
theorem e_nrmr {x y : Nat} (h : x = y) (k : W p l e R s m args below meth c H locs cells slots Q (F0 m pc ls (.ref (ad y) :: rest))) : W p l e R s m args below meth c H locs cells slots Q (F0 m pc ls (.ref (ad x) :: rest)) := h ▸ k
end EG
end
section
/-! METHODS THAT MAY THROW: nothing is written then, one cell more at most a throw -/
def xIO : String := "java/lang/IndexOutOfBoundsException"
def xIS : String := "java/lang/IllegalStateException"
def xIA : String := "java/lang/IllegalArgumentException"
def xAR : String := "java/lang/ArithmeticException"
def e_strs : List (Nat × String) := [(41, "no such place of the stage"), (52, "no more dancers"), (59, "the first place of another one"), (223, "no such dancer"), (225, "no such count"), (82, "too far for a move"), (93, "written out"), (124, "two of them are one"), (129, "no more lifts"), (136, "no such lift"), (138, "nothing of a lift"), (157, "no such last"), (170, "beyond an int"), (227, "no such room"), (229, "no such hour"), (179, "ends ahead of its start"), (181, "the room is taken"), (190, "one takes part in another rehearsal"), (196, "too much for the knees of one")]
def e_exs : List String := [xIO, xIS, xIA, xAR]
def e_sup : List String := ["java/lang/RuntimeException", "java/lang/Exception", "java/lang/Throwable"]
def e_ng (cls : String) : List Cond := .castable cls cls :: e_sup.map (fun Y => .declares (Bundle.initS Y))
def e_T (z0 : Nat) (U : State) : Prop := vx_Zq Bundle.tN "UNASSIGNED_STACK" Bundle.steD (e_A z0) U U.heap ∧ vx_Zq Bundle.tN "SUPPRESSED_SENTINEL" Bundle.listD (e_A z0) U U.heap ∧ (∀ E ∈ e_exs, va_Nw (.castable E E) U) ∧ (∀ q ∈ e_strs, ∃ a, vk_R RX3 q.1 q.2 a U) ∧ (∀ Y ∈ e_sup, va_Nw (.declares (Bundle.initS Y)) U)
theorem e_T.warm {z0 : Nat} {s U : State} {H : Heap} {locs : List Loc} (h : e_T z0 s) (hW : s.WarmedH U.vm) (hU : U.heap = H) (hS : va_S (e_A z0) s.heap H locs) : e_T z0 U := by
  refine ⟨?_, ?_, fun E hE => va_Nw.warmC hW (h.2.2.1 E hE), fun q hq => ?_, fun Y hY => va_Nw.warmD hW (h.2.2.2.2 Y hY)⟩
  · rw [hU]
    exact vx_Zq.moved hW.alike (h.1.kept (fun a h1 h2 => hS.2.1 a h1 h2))
  · rw [hU]
    exact vx_Zq.moved hW.alike (h.2.1.kept (fun a h1 h2 => hS.2.1 a h1 h2))
  · obtain ⟨a, ha⟩ := h.2.2.2.1 q hq
    exact ⟨a, ha.warm hW⟩
theorem e_T.call {z0 : Nat} {U : State} (h : e_T z0 U) (g : JFrame) (mk : MethodId) (a : Array Value) : e_T z0 (U.calling g mk a) := by
  refine ⟨vx_Zq.moved (u := U) (U := U.calling g mk a) (Vm.Alike.refl U.vm) h.1, vx_Zq.moved (u := U) (U := U.calling g mk a) (Vm.Alike.refl U.vm) h.2.1, fun E hE => va_Nw.same rfl (u := U) (U := U.calling g mk a) rfl (h.2.2.1 E hE), fun q hq => ?_, fun Y hY => va_Nw.same rfl (u := U) (U := U.calling g mk a) rfl (h.2.2.2.2 Y hY)⟩
  obtain ⟨b, hb⟩ := h.2.2.2.1 q hq
  exact ⟨b, vk_R.same (u := U) (U := U.calling g mk a) rfl hb⟩
def eX (X : eD) (z0 : Nat) (ad kd sp : Nat → Nat) (v : eV) (P : String → Prop) : String → State → State → Prop := fun E st t => P E ∧ e_P X ad kd sp v t.heap ∧ va_F (e_A z0) st t
def eN (X : eD) (z0 : Nat) (ad kd sp : Nat → Nat) (ov : Option Value) (v' : eV) (G : Prop) : Array Value → State → Outcome → State → Prop := fun _ st o t => o = .returned ov ∧ G ∧ e_P X ad kd sp v' t.heap ∧ va_F (e_A z0) st t
abbrev eTh (l : Launch) (y : MethodName) (b : ByteArray) (n : Nat) (r : Option FieldType) (d mc ms : Nat) (av : List Value) (X : eD) (z0 : Nat) (ad kd sp : Nat → Nat) (v : eV) (ov : Option Value) (v' : eV) (G : Prop) (P : String → Prop) : Prop := vx_Met l y (.code y b n r :: AW) (e_rm d mc ms) (va_Pc av (fun U => e_W X z0 ad kd sp v U ∧ e_T z0 U)) (eN X z0 ad kd sp ov v' G) (eX X z0 ad kd sp v P) mc ms (e_A z0)
theorem e_thrI {l : Launch} {y : MethodName} {cc : ByteArray} {n d mc ms : Nat} {av : List Value} {X : eD} {z0 : Nat} {ad kd sp : Nat → Nat} {v v' : eV} {val : Int32} {G : Prop} {P : String → Prop} (hy : plainName y.cls = true) (hav : (lg_sl av).length ≤ n)
    (body : ∀ (p : Program) (e : Env) (s : State) (m : MethodId) (args : Array Value) (below : List Frame) (meth : Method) (c : Code), p.tables.exec = Jvm.exec → c.code = cc → c.maxLocals = n → s.vm.findClass y.cls = some m.cls → (∀ w ∈ AW, w.before args s = true) → e_W X z0 ad kd sp v s → e_T z0 s → (∀ x ∈ c.exceptionTable.toList, False) → meth.locks = false → ∀ Q : State → Prop, Q = vx_MQ below (eN X z0 ad kd sp (some (.int val)) v' G) (eX X z0 ad kd sp v P) args s mc ms (e_A z0) → (∀ (H : Heap) (locs : List Loc) (pc : Nat) (ls : Array Slot) (w : eV) (r : Int32) (k u : Nat), r = val → w = v' → G → k ≤ mc → u ≤ ms → e_P X ad kd sp w H → va_S (e_A z0) s.heap H locs → decode cc pc = .ok (.ireturn, 1) → W p l e (e_rm d mc ms) s m args below meth c H locs k u Q (F0 m pc ls [.int r])) → ∀ ls : Array Slot, lv_has ls n (lv_args 0 av) → W p l e (e_rm d mc ms) s m args below meth c s.heap [] 0 0 Q (F0 m 0 ls [])) : eTh l y cc n (some .int) d mc ms av X z0 ad kd sp v (some (.int val)) v' G P := by
  refine vx_ofW (cc := cc) (maxL := n) (ret := some .int) hy rfl ?_
  intro p e s m args below meth c s₁ Bd hml hex hv
  obtain ⟨rfl, hB, hT⟩ := hv
  have hts := atoms_spec (ws := .code y cc n (some .int) :: AW) Bd.pre
  have hlocks := Bd.notSynchronized
  rw [lg_entry_eq]
  exact body p e s m _ below meth c Bd.exec Bd.bytes hml (findClass_of_methodNamed Bd.named) (fun w hw => hts w (List.mem_cons_of_mem _ hw)) hB hT hex hlocks _ rfl (fun H locs pc ls w r k u hr hw hG h1 h2 hP hS hd => by subst hr; subst hw; exact W.widen h1 h2 (vx_ret (W.iret Bd.exec Bd.bytes Bd.returns (fun t ht _ => ⟨rfl, hG, by rw [ht]; exact hP, hS.F ht⟩) hS.2.2 hd hlocks))) _ (lv_entry av hav)
theorem e_thrV {l : Launch} {y : MethodName} {cc : ByteArray} {n d mc ms : Nat} {av : List Value} {X : eD} {z0 : Nat} {ad kd sp : Nat → Nat} {v v' : eV} {G : Prop} {P : String → Prop} (hy : plainName y.cls = true) (hav : (lg_sl av).length ≤ n)
    (body : ∀ (p : Program) (e : Env) (s : State) (m : MethodId) (args : Array Value) (below : List Frame) (meth : Method) (c : Code), p.tables.exec = Jvm.exec → c.code = cc → c.maxLocals = n → s.vm.findClass y.cls = some m.cls → (∀ w ∈ AW, w.before args s = true) → e_W X z0 ad kd sp v s → e_T z0 s → (∀ x ∈ c.exceptionTable.toList, False) → meth.locks = false → ∀ Q : State → Prop, Q = vx_MQ below (eN X z0 ad kd sp none v' G) (eX X z0 ad kd sp v P) args s mc ms (e_A z0) → (∀ (H : Heap) (locs : List Loc) (pc : Nat) (ls : Array Slot) (w : eV) (k u : Nat), w = v' → G → k ≤ mc → u ≤ ms → e_P X ad kd sp w H → va_S (e_A z0) s.heap H locs → decode cc pc = .ok (.return_, 1) → W p l e (e_rm d mc ms) s m args below meth c H locs k u Q (F0 m pc ls [])) → ∀ ls : Array Slot, lv_has ls n (lv_args 0 av) → W p l e (e_rm d mc ms) s m args below meth c s.heap [] 0 0 Q (F0 m 0 ls [])) : eTh l y cc n none d mc ms av X z0 ad kd sp v none v' G P := by
  refine vx_ofW (cc := cc) (maxL := n) (ret := none) hy rfl ?_
  intro p e s m args below meth c s₁ Bd hml hex hv
  obtain ⟨rfl, hB, hT⟩ := hv
  have hts := atoms_spec (ws := .code y cc n none :: AW) Bd.pre
  have hlocks := Bd.notSynchronized
  rw [lg_entry_eq]
  exact body p e s m _ below meth c Bd.exec Bd.bytes hml (findClass_of_methodNamed Bd.named) (fun w hw => hts w (List.mem_cons_of_mem _ hw)) hB hT hex hlocks _ rfl (fun H locs pc ls w k u hw hG h1 h2 hP hS hd => by subst hw; exact W.widen h1 h2 (vx_ret (W.vret Bd.exec Bd.bytes Bd.returns (fun t ht _ => ⟨rfl, hG, by rw [ht]; exact hP, hS.F ht⟩) hS.2.2 hd hlocks))) _ (lv_entry av hav)
theorem e_ngB {z0 : Nat} {s : State} {args : Array Value} {cls : String} (hT : e_T z0 s) (h : cls ∈ e_exs) {w : Cond} (hw : w ∈ e_ng cls) : w.before args s = true := by
  rcases List.mem_cons.mp hw with e | hw
  · subst e
    exact va_Nw.use rfl (hT.2.2.1 _ h)
  · obtain ⟨Y, hY, rfl⟩ := List.mem_map.mp hw
    exact va_Nw.use rfl (hT.2.2.2.2 _ hY)
/-- the words of 'throw new cls(text)' -/
def e_tw (ik ic : Nat) (cls : String) : Prop := Cond.classLink RX3 ik cls ∈ AW ∧ Cond.initialized cls ∈ AW ∧ cls ∈ e_exs ∧ Bundle.fit cls = true ∧ (∀ w ∈ (vx_atS RX3 ic cls ["java/lang/RuntimeException", "java/lang/Exception"]).filter goodWord, w ∈ AW) ∧ (∀ w ∈ (vx_atS RX3 ic cls ["java/lang/RuntimeException", "java/lang/Exception"]).filter (fun w => !goodWord w), w ∈ e_ng cls) ∧ (∀ w ∈ Cond.classLink RX3 ik cls :: Cond.initialized cls :: vx_atS RX3 ic cls ["java/lang/RuntimeException", "java/lang/Exception"], vx_ot w = true)
section ET
variable {p : Program} {l : Launch} {e : Env} {R : Room} {s : State} {m : MethodId} {args : Array Value} {below : List Frame} {meth : Method} {c : Code} {H : Heap} {locs : List Loc} {cells slots : Nat} {Q : State → Prop}
variable {cc : ByteArray} {pc nL : Nat} {ls : Array Slot} {rest st : List Value} {X : eD} {z0 : Nat} {ad kd sp : Nat → Nat} {v v' : eV} {mc ms : Nat} {Qc : Array Value → State → Outcome → State → Prop} {P P' : String → Prop}
theorem e_throw (hQ : Q = vx_MQ below Qc (eX X z0 ad kd sp v P) args s mc ms (e_A z0)) (hx : p.tables.exec = Jvm.exec) (hb : c.code = cc) (hml : c.maxLocals = nL) (hl : l.stackTraces = false) (hown : s.vm.findClass RX3 = some m.cls) (hts : ∀ w ∈ AW, w.before args s = true) (hT : e_T z0 s) (hex : ∀ x ∈ c.exceptionTable.toList, False) (hlocks : meth.locks = false) (hP : e_P X ad kd sp v H) (hS : va_S (e_A z0) s.heap H locs) {ik ic is : Nat} {cls text : String} (tw : e_tw ik ic cls) (hstr : (is, text) ∈ e_strs) (hPc : P cls) (hls : ls.size = nL) (hR1 : 5 < R.frames) (hR2 : (rest.map fun v => v.category).sum + 82 ≤ R.locals) (hR3 : cells + 1 ≤ R.cells) (hR4 : slots + 6 ≤ R.slots) (hc : cells + 1 ≤ mc) (hs : slots + 6 ≤ ms)
    (d0 : decode cc pc = .ok (.new ik, 3)) (d3 : decode cc (pc + 3) = .ok (.dup, 1)) (d4 : decode cc (pc + 4) = .ok (.ldc is, 2)) (d6 : decode cc (pc + 6) = .ok (.invokespecial ic, 3)) (d9 : decode cc (pc + 9) = .ok (.athrow, 1)) : W p l e R s m args below meth c H locs cells slots Q (F0 m pc ls rest) := by
  subst hQ
  obtain ⟨t1, t2, t3, t4, t5, t6, t7⟩ := tw
  obtain ⟨sa, hsa⟩ := hT.2.2.2.1 _ hstr
  refine vx_throwS (names := ["java/lang/RuntimeException", "java/lang/Exception"]) hx hb hl hown t4 (by decide +kernel) (hts _ t1) (hts _ t2) hsa (vx_hat (B := e_ng cls) (fun w hw => hts w (t5 w hw)) t6 (fun w hw => e_ngB hT t3 hw)) t7 hT.1 hT.2.1 hS (hls.trans hml.symm) d0 d3 d4 d6 d9 (fun x hx => (hex x hx).elim) hR1 hR2 hR3 hR4 hlocks ?_ hS.2.2 hc hs
  intro t hvm hsz hk
  exact ⟨hPc, hP.kept (fun q hq _ => hk q hq), ⟨Nat.le_trans hS.1 hsz, fun q h1 h2 => by rw [hk q (Nat.lt_of_lt_of_le h1 hS.1)]; exact hS.2.1 q h1 h2⟩⟩
theorem e_runX {ov : Option Value} {a : Array Value} {st0 : List Value} {mc' ms' : Nat} {G : Prop} (hQ : Q = vx_MQ below Qc (eX X z0 ad kd sp v P) args s mc ms (e_A z0)) (hex : ∀ x ∈ c.exceptionTable.toList, False) (hlocks : meth.locks = false) (himp : ∀ E, P' E → P E) (hr : vx_Run p l e R s m args below meth c H locs cells slots mc' ms' (F0 m pc ls st0) rest (eN X z0 ad kd sp ov v' G a) (eX X z0 ad kd sp v P') (e_A z0)) (hz : z0 ≤ H.size) (hS : va_S (e_A z0) s.heap H locs) (hc : cells + mc' ≤ mc) (hs : slots + ms' ≤ ms)
    (kk : ∀ (H1 : Heap) (locs1 : List Loc), G → z0 ≤ H1.size → e_P X ad kd sp v' H1 → va_S (e_A z0) s.heap H1 locs1 → W p l e R s m args below meth c H1 locs1 (cells + mc') (slots + ms') Q (F0 m (pc + 3) ls (ov.toList ++ rest))) : W p l e R s m args below meth c H locs cells slots Q (F0 m pc ls st0) := by
  intro T hT X0
  rcases hr T hT X0 with ⟨v, st₀, t, T', L, h0, X', hL, e1, -, ⟨hv, hG, hh, hF⟩, st⟩ | ⟨q, st₀, t, T', L, E, ce, h0, X', hL, e1, -, ⟨hPE, hh, hF⟩, hce, hcv, hcl, st⟩
  · cases hv
    obtain ⟨hz1, hk⟩ := hF
    rw [h0] at hz1 hk
    obtain ⟨t2, a1, b1⟩ := kk T'.heap (locs ++ L) hG (by rw [e1]; exact Nat.le_trans hz hz1) (by rw [e1]; exact hh) ⟨Nat.le_trans hS.1 (by rw [e1]; exact hz1), fun q h1 h2 => by rw [e1, hk q (Nat.lt_of_lt_of_le h1 hS.1) h2]; exact hS.2.1 q h1 h2, fun q hq => (List.mem_append.mp hq).elim (hS.2.2 q) (hL q)⟩ T' rfl X'
    exact ⟨t2, st t2 a1, b1⟩
  · subst hQ
    obtain ⟨hz1, hk⟩ := hF
    rw [h0] at hz1 hk
    have hF9 : ∀ t9 : State, t9.heap = T'.heap → va_F (e_A z0) s t9 := fun t9 h9 => ⟨by rw [h9, e1]; exact Nat.le_trans hS.1 hz1, fun q h1 h2 => by rw [h9, e1, hk q (Nat.lt_of_lt_of_le h1 hS.1) h2]; exact hS.2.1 q h1 h2⟩
    obtain ⟨t2, a1, b1⟩ := vx_out (Qc := Qc) (XC := eX X z0 ad kd sp v P) (args := args) (free := e_A z0) (mc := mc) (ms := ms) (pc := pc) (ls := ls) (rest := rest) (H := T'.heap) (fun x hx => (hex x hx).elim) hlocks (by rw [e1]; exact hce) hcv hcl (fun t9 h9 _ => ⟨himp _ hPE, by rw [h9, e1]; exact hh, hF9 t9 h9⟩) (fun z hz => (List.mem_append.mp hz).elim (hS.2.2 z) (hL z)) hc hs T' rfl X'
    exact ⟨t2, st.trans a1, b1⟩
theorem e_cVX {ov : Option Value} {G : Prop} {mc' ms' : Nat} (hQ : Q = vx_MQ below Qc (eX X z0 ad kd sp v P) args s mc ms (e_A z0)) (hex : ∀ x ∈ c.exceptionTable.toList, False) (hlocks : meth.locks = false) (himp : ∀ E, P' E → P E) (hx : p.tables.exec = Jvm.exec) (hb : c.code = cc) (hml : c.maxLocals = nL) {own : String} (hown : s.vm.findClass own = some m.cls) (hts : ∀ w ∈ AW, w.before args s = true) (hT : e_T z0 s) {y : MethodName} {b : ByteArray} {n idx k d : Nat} {r : Option FieldType} {C : String} {As : List Value} (nm : Nat) (hM : eTh l y b n r d mc' ms' (.ref (ad nm) :: As) X z0 ad kd sp v ov v' G P') (cw : e_cwV own idx C y b n r k) (hf : d + 1 ≤ R.frames) (hlo : 8 + (n + 11) + 60 * d ≤ R.locals) (hz : z0 ≤ H.size) (hP : e_P X ad kd sp v H) (hI : e_I z0 ad kd) (hK : e_S X s) (hS : va_S (e_A z0) s.heap H locs) {K : Nat} (hk : kd nm = K) (h0 : K ≠ 0) {ci : Nat} {fs : List Value} (he : e_sh X ad sp v K nm = .inr (ci, fs)) {T : u_T} {N : Nat} (hc : vwCl[ci]? = some (C, T, N)) (hn : As.length = k) (hsz : ls.size = nL) (hst : st = As.reverse ++ .ref (ad nm) :: rest) (hW : (rest.map fun v => v.category).sum ≤ 8) (hfc : cells + mc' ≤ R.cells ∧ slots + ms' ≤ R.slots) (hcm : cells + mc' ≤ mc) (hsm : slots + ms' ≤ ms) (hdg : decode cc pc = .ok (.invokevirtual idx, 3))
    (kk : ∀ (H1 : Heap) (locs1 : List Loc), G → z0 ≤ H1.size → e_P X ad kd sp v' H1 → va_S (e_A z0) s.heap H1 locs1 → W p l e R s m args below meth c H1 locs1 (cells + mc') (slots + ms') Q (F0 m (pc + 3) ls (ov.toList ++ rest))) : W p l e R s m args below meth c H locs cells slots Q (F0 m pc ls st) :=
  e_runX hQ hex hlocks himp (vx_runV (As := As) (rest := rest) ⟨hx, hb, hml, hown, hts⟩ hM (cw.use hts rfl rfl hf hlo) ⟨fun a U g mk q => ⟨q.1, q.2.1.call g mk a, q.2.2.call g mk a⟩, e_recv hK hP hk h0 he hc, fun U hU hW => ⟨rfl, ⟨by rw [hU]; exact hz, by rw [hU]; exact hP, hI, hK.warm hW⟩, hT.warm hW hU hS⟩⟩ rfl hn hsz hst (lv_room hW) hdg hfc) hz hS hcm hsm kk
theorem e_cSX {ov : Option Value} {G : Prop} {mc' ms' : Nat} (hQ : Q = vx_MQ below Qc (eX X z0 ad kd sp v P) args s mc ms (e_A z0)) (hex : ∀ x ∈ c.exceptionTable.toList, False) (hlocks : meth.locks = false) (himp : ∀ E, P' E → P E) (hx : p.tables.exec = Jvm.exec) (hb : c.code = cc) (hml : c.maxLocals = nL) {own : String} (hown : s.vm.findClass own = some m.cls) (hts : ∀ w ∈ AW, w.before args s = true) (hT : e_T z0 s) {y : MethodName} {b : ByteArray} {n idx k d : Nat} {r : Option FieldType} {As : List Value} (hM : eTh l y b n r d mc' ms' As X z0 ad kd sp v ov v' G P') (cw : e_cwS own idx y b n r k) (hf : d + 1 ≤ R.frames) (hlo : 8 + (n + 11) + 60 * d ≤ R.locals) (hz : z0 ≤ H.size) (hP : e_P X ad kd sp v H) (hI : e_I z0 ad kd) (hK : e_S X s) (hS : va_S (e_A z0) s.heap H locs) (hn : As.length = k) (hsz : ls.size = nL) (hst : st = As.reverse ++ rest) (hW : (rest.map fun v => v.category).sum ≤ 8) (hfc : cells + mc' ≤ R.cells ∧ slots + ms' ≤ R.slots) (hcm : cells + mc' ≤ mc) (hsm : slots + ms' ≤ ms) (hdg : decode cc pc = .ok (.invokestatic idx, 3))
    (kk : ∀ (H1 : Heap) (locs1 : List Loc), G → z0 ≤ H1.size → e_P X ad kd sp v' H1 → va_S (e_A z0) s.heap H1 locs1 → W p l e R s m args below meth c H1 locs1 (cells + mc') (slots + ms') Q (F0 m (pc + 3) ls (ov.toList ++ rest))) : W p l e R s m args below meth c H locs cells slots Q (F0 m pc ls st) :=
  e_runX hQ hex hlocks himp (vx_runS (As := As) (rest := rest) ⟨hx, hb, hml, hown, hts⟩ hM (cw.use hts rfl rfl hf hlo) ⟨fun a U g mk q => ⟨q.1, q.2.1.call g mk a, q.2.2.call g mk a⟩, fun U hU hW => ⟨rfl, ⟨by rw [hU]; exact hz, by rw [hU]; exact hP, hI, hK.warm hW⟩, hT.warm hW hU hS⟩⟩ rfl hn hsz hst (lv_room hW) hdg hfc) hz hS hcm hsm kk
end ET
theorem tw_IO : e_tw 39 43 xIO := ⟨aw_of (List.mem_of_getElem? (i := 275) (by decide +kernel)) (by decide +kernel), aw_of (by decide +kernel) (by decide +kernel), by decide +kernel, by decide +kernel, fun w h => aw_of ((by decide +kernel : ∀ w ∈ (vx_atS RX3 43 xIO ["java/lang/RuntimeException", "java/lang/Exception"]).filter goodWord, w ∈ lw_tbl) w h) (List.mem_filter.mp h).2, by decide +kernel, by decide +kernel⟩
theorem tw_IS : e_tw 50 54 xIS := ⟨aw_of (List.mem_of_getElem? (i := 288) (by decide +kernel)) (by decide +kernel), aw_of (by decide +kernel) (by decide +kernel), by decide +kernel, by decide +kernel, fun w h => aw_of ((by decide +kernel : ∀ w ∈ (vx_atS RX3 54 xIS ["java/lang/RuntimeException", "java/lang/Exception"]).filter goodWord, w ∈ lw_tbl) w h) (List.mem_filter.mp h).2, by decide +kernel, by decide +kernel⟩
theorem tw_IA : e_tw 80 84 xIA := ⟨aw_of (List.mem_of_getElem? (i := 428) (by decide +kernel)) (by decide +kernel), aw_of (by decide +kernel) (by decide +kernel), by decide +kernel, by decide +kernel, fun w h => aw_of ((by decide +kernel : ∀ w ∈ (vx_atS RX3 84 xIA ["java/lang/RuntimeException", "java/lang/Exception"]).filter goodWord, w ∈ lw_tbl) w h) (List.mem_filter.mp h).2, by decide +kernel, by decide +kernel⟩
theorem tw_AR : e_tw 168 172 xAR := ⟨aw_of (List.mem_of_getElem? (i := 602) (by decide +kernel)) (by decide +kernel), aw_of (by decide +kernel) (by decide +kernel), by decide +kernel, by decide +kernel, fun w h => aw_of ((by decide +kernel : ∀ w ∈ (vx_atS RX3 172 xAR ["java/lang/RuntimeException", "java/lang/Exception"]).filter goodWord, w ∈ lw_tbl) w h) (List.mem_filter.mp h).2, by decide +kernel, by decide +kernel⟩
end
section
/-! NEW CELLS: a name that wasn't there gets a kind; its numbers begin at 0 -/
def kup (kd : Nat → Nat) (n K : Nat) : Nat → Nat := fun m => if m = n then K else kd m
theorem kup_s {kd : Nat → Nat} {n K : Nat} : kup kd n K n = K := if_pos rfl
theorem kup_n {kd : Nat → Nat} {n K m K' : Nat} (h : m ≠ n) (e : kd m = K') : kup kd n K m = K' := by rw [← e]; exact if_neg h
def upN (f : Nat → Nat) (k x : Nat) : Nat → Nat := fun m => if m = k then x else f m
def e_z (v : eV) (n : Nat) : eV := fun m => if m = n then fun _ => 0 else v m
theorem e_set_s {v : eV} {n k : Nat} {x : Int32} : e_set v n k x n = upd (v n) k x := if_pos rfl
theorem e_set_n {v : eV} {n k m : Nat} {x : Int32} (h : m ≠ n) : e_set v n k x m = v m := if_neg h
theorem e_z_s {v : eV} {n : Nat} : e_z v n n = fun _ => 0 := if_pos rfl
theorem e_z_n {v : eV} {n m : Nat} (h : m ≠ n) : e_z v n m = v m := if_neg h
theorem e_rr1 {a : Nat} : e_rr 1 a = .ref a := if_neg (by decide)
theorem e_rr0 {a : Nat} : e_rr 0 a = .null := if_pos rfl
theorem e_sh_v {X : eD} {ad sp : Nat → Nat} {v w : eV} {m K : Nat} (h : w m = v m) : e_sh X ad sp w K m = e_sh X ad sp v K m := by
  unfold e_sh
  rw [h]
theorem e_P.grow {X : eD} {z0 : Nat} {ad kd sp : Nat → Nat} {v : eV} {H H1 : Heap} (hP : e_P X ad kd sp v H) (hI : e_I z0 ad kd) (hz : z0 ≤ H.size) {n K : Nat} (had : ad n = H.size) (oq : ∀ q : Nat, q < H.size → H1[q]? = H[q]?) (he : va_at X.1 vwCl (ad n, e_sh X ad sp (e_z v n) K n) H1) (hk : kd n = 0) : e_P X ad (kup kd n K) sp (e_z v n) H1 ∧ e_I z0 ad (kup kd n K) := by
  refine ⟨fun m hm => ?_, fun a b ha hb hab => ?_, fun a ha => ?_⟩
  · by_cases h : m = n
    · subst h
      rw [kup_s]
      exact he
    · have e : kup kd n K m = kd m := if_neg h
      rw [e] at hm ⊢
      rw [e_sh_v (v := v) (if_neg h)]
      exact (hP m hm).kept (oq _ (hP m hm).lt)
  · by_cases h1 : a = n
    · by_cases h2 : b = n
      · rw [h1, h2]
      · have e : kup kd n K b = kd b := if_neg h2
        rw [e] at hb
        have := (hP b hb).lt
        subst h1
        rw [had] at hab
        exact absurd hab (by show ¬ _; have : ad b < H.size := this; omega)
    · have e : kup kd n K a = kd a := if_neg h1
      rw [e] at ha
      by_cases h2 : b = n
      · subst h2
        have : ad a < H.size := (hP a ha).lt
        rw [had] at hab
        omega
      · have e : kup kd n K b = kd b := if_neg h2
        rw [e] at hb
        exact hI.1 a b ha hb hab
  · by_cases h1 : a = n
    · subst h1
      rw [had]
      exact hz
    · have e : kup kd n K a = kd a := if_neg h1
      rw [e] at ha
      exact hI.2 a ha
/-- the same cells under other names of their kinds -/
theorem e_P.re {X : eD} {ad kd sp ad' kd' sp' : Nat → Nat} {v v' : eV} {H : Heap} (hP : e_P X ad kd sp v H) (h : ∀ n, kd' n ≠ 0 → kd n ≠ 0 ∧ ad' n = ad n ∧ e_sh X ad' sp' v' (kd' n) n = e_sh X ad sp v (kd n) n) : e_P X ad' kd' sp' v' H := by
  intro n hn
  obtain ⟨h1, h2, h3⟩ := h n hn
  rw [h2, h3]
  exact hP n h1
theorem e_I.re {z0 : Nat} {ad kd ad' kd' : Nat → Nat} (hI : e_I z0 ad kd) (h : ∀ n, kd' n ≠ 0 → kd n ≠ 0 ∧ ad' n = ad n) : e_I z0 ad' kd' := by
  refine ⟨fun a b ha hb hab => ?_, fun a ha => ?_⟩
  · rw [(h a ha).2, (h b hb).2] at hab
    exact hI.1 a b (h a ha).1 (h b hb).1 hab
  · rw [(h a ha).2]
    exact hI.2 a (h a ha).1
/-- one cell's kind is said otherwise -/
theorem e_P.kind {X : eD} {ad kd sp : Nat → Nat} {v : eV} {H : Heap} (hP : e_P X ad kd sp v H) {n K K' : Nat} (hk : kd n = K) (h0 : K ≠ 0) (he : e_sh X ad sp v K' n = e_sh X ad sp v K n) : e_P X ad (kup kd n K') sp v H := by
  refine hP.re fun m hm => ?_
  by_cases h : m = n
  · subst h
    rw [kup_s, hk]
    exact ⟨h0, rfl, he⟩
  · have e : kup kd n K' m = kd m := if_neg h
    rw [e] at hm ⊢
    exact ⟨hm, rfl, rfl⟩
theorem e_I.kind {z0 : Nat} {ad kd : Nat → Nat} (hI : e_I z0 ad kd) {n K K' : Nat} (hk : kd n = K) (h0 : K ≠ 0) : e_I z0 ad (kup kd n K') := by
  refine hI.re fun m hm => ?_
  by_cases h : m = n
  · subst h
    rw [hk]
    exact ⟨h0, rfl⟩
  · have e : kup kd n K' m = kd m := if_neg h
    rw [e] at hm
    exact ⟨hm, rfl⟩
theorem e_P.put2 {X : eD} {z0 : Nat} {ad kd sp sp' : Nat → Nat} {v v' : eV} {H H1 : Heap} (hP : e_P X ad kd sp v H) (hI : e_I z0 ad kd) {n : Nat} (h0 : kd n ≠ 0) (he : va_at X.1 vwCl (ad n, e_sh X ad sp' v' (kd n) n) H1) (oq : ∀ q : Nat, q ≠ ad n → H1[q]? = H[q]?) (ho : ∀ m, kd m ≠ 0 → m ≠ n → e_sh X ad sp' v' (kd m) m = e_sh X ad sp v (kd m) m) : e_P X ad kd sp' v' H1 := by
  intro m hm
  by_cases h : m = n
  · subst h
    exact he
  · rw [ho m hm h]
    exact (hP m hm).kept (oq _ (fun z => h (hI.1 m n hm h0 z)))
def e_O : String := "java/lang/Object"
def e_AO : String := "[Ljava/lang/Object;"
def e_AL : String := "java/util/ArrayList"
def e_gC : MethodName := ⟨"java/lang/Object", "getClass", "()Ljava/lang/Class;"⟩
/-- what ArrayList's own machinery needs of the start: its empty array at t0, the class object of Object[] at mi -/
def e_L (z0 t0 mi : Nat) (U : State) : Prop := va_Z e_AL "DEFAULTCAPACITY_EMPTY_ELEMENTDATA" e_AO (.ref t0) (e_A z0) U U.heap ∧ va_T (.object e_O) t0 0 (fun _ => .null) (e_A z0) U U.heap ∧ va_AO e_O U ∧ va_Mi e_AO mi U ∧ va_Nw (.castable "Stepscript$Dancer" e_O) U ∧ va_Nw (.castable "Stepscript$Lift" e_O) U ∧ va_Nw (.declares e_gC) U ∧ va_AOA .int U
theorem va_AOA.moved {ty : FieldType} {u U : State} (hvm : u.vm.Alike U.vm) (h : va_AOA ty u) : va_AOA ty U := by
  obtain ⟨comp, c, k, h1, h2, h3, h4, h5⟩ := arrayOverA_spec h
  obtain ⟨k', hk', he⟩ := hvm.2.2 _ _ h3
  have hi : (U.vm.classes.findIdx? fun (x : Class) => match x.kind with | .array component _ => component == comp | _ => false) = some c := by
    refine (va_idx_bare U.vm comp).symm.trans ?_
    first | rw [hvm.bare_eq] | rw [← hvm.bare_eq]
    exact (va_idx_bare _ comp).trans h2
  have hkind : k'.kind = .array comp (.array ty) := by rw [he]; exact h4
  have f1 : U.vm.findClass (FieldType.array ty).toString = some comp := by rw [hvm.findClass]; exact h1
  have f2 : U.vm.findClass ("[" ++ (FieldType.array ty).toString) = some c := by rw [hvm.findClass]; exact h5
  unfold va_AOA Cond.before Cond.holds
  simp only [Cond.value]
  rw [f1, Option.bind_some]
  refine (congrArg (fun o : Option Nat => (o.bind (fun c => (U.vm.classes[c]?).map fun (k : Class) => match k.kind with | .array _ ty' => decide (ty' = FieldType.array ty) && decide (U.vm.findClass ("[" ++ (FieldType.array ty).toString) = some c) | _ => false) == some true)) hi).trans ?_
  simp [hk', hkind, f2]
theorem e_L.warm {z0 t0 mi : Nat} {s U : State} {H : Heap} {locs : List Loc} (h : e_L z0 t0 mi s) (hW : s.WarmedH U.vm) (hU : U.heap = H) (hS : va_S (e_A z0) s.heap H locs) : e_L z0 t0 mi U := by
  refine ⟨?_, ?_, h.2.2.1.moved hW.alike, h.2.2.2.1.moved hW.alike, va_Nw.warmC hW h.2.2.2.2.1, va_Nw.warmC hW h.2.2.2.2.2.1, va_Nw.warmD hW h.2.2.2.2.2.2.1, va_AOA.moved hW.alike h.2.2.2.2.2.2.2⟩
  · rw [hU]
    exact va_Z.moved hW.alike (h.1.kept (fun a h1 h2 => hS.2.1 a h1 h2))
  · rw [hU]
    exact va_T.moved hW.alike (h.2.1.kept (fun a h1 h2 => hS.2.1 a h1 h2))
theorem e_L.call {z0 t0 mi : Nat} {U : State} (h : e_L z0 t0 mi U) (g : JFrame) (mk : MethodId) (a : Array Value) : e_L z0 t0 mi (U.calling g mk a) :=
  have hA : U.vm.Alike (U.calling g mk a).vm := Vm.Alike.refl U.vm
  ⟨va_Z.moved (u := U) (U := U.calling g mk a) hA h.1, va_T.moved (u := U) (U := U.calling g mk a) hA h.2.1, va_AO.moved (u := U) (U := U.calling g mk a) hA h.2.2.1, va_Mi.moved (u := U) (U := U.calling g mk a) hA h.2.2.2.1, va_Nw.same rfl (u := U) (U := U.calling g mk a) rfl h.2.2.2.2.1, va_Nw.same rfl (u := U) (U := U.calling g mk a) rfl h.2.2.2.2.2.1, va_Nw.same rfl (u := U) (U := U.calling g mk a) rfl h.2.2.2.2.2.2.1, va_AOA.moved (u := U) (U := U.calling g mk a) hA h.2.2.2.2.2.2.2⟩
/-- the start of a method that makes cells: the heap's size is a0 -/
def eWa (X : eD) (z0 t0 mi : Nat) (ad kd sp : Nat → Nat) (v : eV) (a0 : Nat) (U : State) : Prop := e_W X z0 ad kd sp v U ∧ U.heap.size = a0 ∧ e_L z0 t0 mi U
def eQa (X : eD) (z0 : Nat) (ad : Nat → Nat) (ov : Option Value) (kd' sp' : Nat → Nat) (v' : eV) (a1 : Nat) : Array Value → State → Outcome → State → Prop := fun _ st o t => o = .returned ov ∧ e_P X ad kd' sp' v' t.heap ∧ e_I z0 ad kd' ∧ t.heap.size = a1 ∧ va_F (e_A z0) st t
abbrev eAl (l : Launch) (y : MethodName) (b : ByteArray) (n : Nat) (r : Option FieldType) (d mc ms : Nat) (av : List Value) (X : eD) (z0 t0 mi : Nat) (ad kd sp : Nat → Nat) (v : eV) (a0 : Nat) (ov : Option Value) (kd' sp' : Nat → Nat) (v' : eV) (a1 : Nat) : Prop := Met l y (.code y b n r :: AW) (e_rm d mc ms) (va_Pc av (eWa X z0 t0 mi ad kd sp v a0)) (eQa X z0 ad ov kd' sp' v' a1) mc ms (e_A z0)
theorem eWa.call {X : eD} {z0 t0 mi : Nat} {ad kd sp : Nat → Nat} {v : eV} {a0 : Nat} {U : State} (h : eWa X z0 t0 mi ad kd sp v a0 U) (g : JFrame) (mk : MethodId) (a : Array Value) : eWa X z0 t0 mi ad kd sp v a0 (U.calling g mk a) := ⟨h.1.call g mk a, h.2.1, h.2.2.call g mk a⟩
theorem e_alcV {l : Launch} {y : MethodName} {cc : ByteArray} {n d mc ms : Nat} {av : List Value} {X : eD} {z0 t0 mi : Nat} {ad kd sp kd' sp' : Nat → Nat} {v v' : eV} {a0 a1 : Nat} (hy : plainName y.cls = true) (hav : (lg_sl av).length ≤ n)
    (body : ∀ (p : Program) (e : Env) (s : State) (m : MethodId) (args : Array Value) (below : List Frame) (meth : Method) (c : Code), p.tables.exec = Jvm.exec → c.code = cc → c.maxLocals = n → s.vm.findClass y.cls = some m.cls → (∀ w ∈ AW, w.before args s = true) → eWa X z0 t0 mi ad kd sp v a0 s → meth.name = y.name → ∀ Q : State → Prop, (∀ (H : Heap) (locs : List Loc) (pc : Nat) (ls : Array Slot) (k9 s9 : Nat → Nat) (w : eV) (k u : Nat), k9 = kd' → s9 = sp' → w = v' → k ≤ mc → u ≤ ms → e_P X ad k9 s9 w H → e_I z0 ad k9 → H.size = a1 → va_S (e_A z0) s.heap H locs → decode cc pc = .ok (.return_, 1) → W p l e (e_rm d mc ms) s m args below meth c H locs k u Q (F0 m pc ls [])) → ∀ ls : Array Slot, lv_has ls n (lv_args 0 av) → W p l e (e_rm d mc ms) s m args below meth c s.heap [] 0 0 Q (F0 m 0 ls [])) : eAl l y cc n none d mc ms av X z0 t0 mi ad kd sp v a0 none kd' sp' v' a1 := by
  refine Met.ofW (cc := cc) (maxL := n) (ret := none) hy rfl ?_
  intro p e s m args below meth c s₁ Bd hml hv
  obtain ⟨rfl, hB⟩ := hv
  have hts := atoms_spec (ws := .code y cc n none :: AW) Bd.pre
  have hlocks := Bd.notSynchronized
  rw [lg_entry_eq]
  exact body p e s m _ below meth c Bd.exec Bd.bytes hml (findClass_of_methodNamed Bd.named) (fun w hw => hts w (List.mem_cons_of_mem _ hw)) hB (name_of_methodNamed Bd.named Bd.method).1 _ (fun H locs pc ls k9 s9 w k u e1 e2 e3 h1 h2 hP hI hz hS hd => by subst e1; subst e2; subst e3; exact W.widen h1 h2 (W.vret Bd.exec Bd.bytes Bd.returns (fun t ht _ => ⟨rfl, by rw [ht]; exact hP, hI, by rw [ht]; exact hz, hS.F ht⟩) hS.2.2 hd hlocks)) _ (lv_entry av hav)
theorem e_alcI {l : Launch} {y : MethodName} {cc : ByteArray} {n d mc ms : Nat} {av : List Value} {X : eD} {z0 t0 mi : Nat} {ad kd sp kd' sp' : Nat → Nat} {v v' : eV} {a0 a1 : Nat} (hy : plainName y.cls = true) (hav : (lg_sl av).length ≤ n) {ty : FieldType} {val : Int32} (hn : narrow ty (.int val) = .int val)
    (body : ∀ (p : Program) (e : Env) (s : State) (m : MethodId) (args : Array Value) (below : List Frame) (meth : Method) (c : Code), p.tables.exec = Jvm.exec → c.code = cc → c.maxLocals = n → s.vm.findClass y.cls = some m.cls → (∀ w ∈ AW, w.before args s = true) → eWa X z0 t0 mi ad kd sp v a0 s → meth.name = y.name → ∀ Q : State → Prop, (∀ (H : Heap) (locs : List Loc) (pc : Nat) (ls : Array Slot) (k9 s9 : Nat → Nat) (w : eV) (k u : Nat), k9 = kd' → s9 = sp' → w = v' → k ≤ mc → u ≤ ms → e_P X ad k9 s9 w H → e_I z0 ad k9 → H.size = a1 → va_S (e_A z0) s.heap H locs → decode cc pc = .ok (.ireturn, 1) → W p l e (e_rm d mc ms) s m args below meth c H locs k u Q (F0 m pc ls [.int val])) → ∀ ls : Array Slot, lv_has ls n (lv_args 0 av) → W p l e (e_rm d mc ms) s m args below meth c s.heap [] 0 0 Q (F0 m 0 ls [])) : eAl l y cc n (some ty) d mc ms av X z0 t0 mi ad kd sp v a0 (some (.int val)) kd' sp' v' a1 := by
  refine Met.ofW (cc := cc) (maxL := n) (ret := (some ty)) hy rfl ?_
  intro p e s m args below meth c s₁ Bd hml hv
  obtain ⟨rfl, hB⟩ := hv
  have hts := atoms_spec (ws := .code y cc n (some ty) :: AW) Bd.pre
  have hlocks := Bd.notSynchronized
  rw [lg_entry_eq]
  exact body p e s m _ below meth c Bd.exec Bd.bytes hml (findClass_of_methodNamed Bd.named) (fun w hw => hts w (List.mem_cons_of_mem _ hw)) hB (name_of_methodNamed Bd.named Bd.method).1 _ (fun H locs pc ls k9 s9 w k u e1 e2 e3 h1 h2 hP hI hz hS hd => by subst e1; subst e2; subst e3; exact W.widen h1 h2 (W.zret Bd.exec Bd.bytes Bd.returns hn (fun t ht _ => ⟨rfl, by rw [ht]; exact hP, hI, by rw [ht]; exact hz, hS.F ht⟩) hS.2.2 hd hlocks)) _ (lv_entry av hav)
theorem e_alcR {l : Launch} {y : MethodName} {cc : ByteArray} {n d mc ms : Nat} {av : List Value} {X : eD} {z0 t0 mi : Nat} {ad kd sp kd' sp' : Nat → Nat} {v v' : eV} {a0 a1 : Nat} (hy : plainName y.cls = true) (hav : (lg_sl av).length ≤ n) {ty : FieldType} {val : Nat} (hrt : (∃ n, ty = .object n) ∨ ∃ t, ty = .array t)
    (body : ∀ (p : Program) (e : Env) (s : State) (m : MethodId) (args : Array Value) (below : List Frame) (meth : Method) (c : Code), p.tables.exec = Jvm.exec → c.code = cc → c.maxLocals = n → s.vm.findClass y.cls = some m.cls → (∀ w ∈ AW, w.before args s = true) → eWa X z0 t0 mi ad kd sp v a0 s → meth.name = y.name → ∀ Q : State → Prop, (∀ (H : Heap) (locs : List Loc) (pc : Nat) (ls : Array Slot) (k9 s9 : Nat → Nat) (w : eV) (k u : Nat), k9 = kd' → s9 = sp' → w = v' → k ≤ mc → u ≤ ms → e_P X ad k9 s9 w H → e_I z0 ad k9 → H.size = a1 → va_S (e_A z0) s.heap H locs → decode cc pc = .ok (.areturn, 1) → W p l e (e_rm d mc ms) s m args below meth c H locs k u Q (F0 m pc ls [.ref val])) → ∀ ls : Array Slot, lv_has ls n (lv_args 0 av) → W p l e (e_rm d mc ms) s m args below meth c s.heap [] 0 0 Q (F0 m 0 ls [])) : eAl l y cc n (some ty) d mc ms av X z0 t0 mi ad kd sp v a0 (some (.ref val)) kd' sp' v' a1 := by
  refine Met.ofW (cc := cc) (maxL := n) (ret := (some ty)) hy rfl ?_
  intro p e s m args below meth c s₁ Bd hml hv
  obtain ⟨rfl, hB⟩ := hv
  have hts := atoms_spec (ws := .code y cc n (some ty) :: AW) Bd.pre
  have hlocks := Bd.notSynchronized
  rw [lg_entry_eq]
  exact body p e s m _ below meth c Bd.exec Bd.bytes hml (findClass_of_methodNamed Bd.named) (fun w hw => hts w (List.mem_cons_of_mem _ hw)) hB (name_of_methodNamed Bd.named Bd.method).1 _ (fun H locs pc ls k9 s9 w k u e1 e2 e3 h1 h2 hP hI hz hS hd => by subst e1; subst e2; subst e3; exact W.widen h1 h2 (W.aret Bd.exec Bd.bytes Bd.returns hrt (Or.inr ⟨_, rfl⟩) (fun t ht _ => ⟨rfl, by rw [ht]; exact hP, hI, by rw [ht]; exact hz, hS.F ht⟩) hS.2.2 hd hlocks)) _ (lv_entry av hav)
section EA
variable {p : Program} {l : Launch} {e : Env} {R : Room} {s : State} {m : MethodId} {args : Array Value} {below : List Frame} {meth : Method} {c : Code} {H : Heap} {locs : List Loc} {cells slots : Nat} {Q : State → Prop}
variable {cc : ByteArray} {pc nL : Nat} {ls : Array Slot} {rest st : List Value} {X : eD} {z0 t0 mi : Nat} {ad kd sp kd' sp' : Nat → Nat} {v v' : eV} {H0 : Heap}
theorem e_new (hexec : p.tables.exec = Jvm.exec) (hb : c.code = cc) (hts : ∀ w ∈ AW, w.before args s = true) {own C : String} {T : u_T} {N ci index : Nat} (hin : ∀ w ∈ u_ws C T N, w ∈ AW) (ty : Nat → FieldType) (hty : ∀ k, k < N → parseFieldDescriptor (T k).2.2.1 = some (ty k)) (hown : s.vm.findClass own = some m.cls) (hcl : Cond.classLink own index C ∈ AW) (hinst : Cond.instantiable C N ∈ AW) (hini : Cond.initialized C ∈ AW) (hK : e_S X s) (hP : e_P X ad kd sp v H) (hI : e_I z0 ad kd) (hz : z0 ≤ H.size) (hS : va_S (e_A z0) H0 H locs) (nm K : Nat) (hk : kd nm = 0) (had : ad nm = H.size) (hc : vwCl[ci]? = some (C, T, N)) {fs : List Value} (he : e_sh X ad sp (e_z v nm) K nm = .inr (ci, fs)) (hfs : ∀ j, j < N → defaultValue (ty j) = vp_V fs j) (hcells : cells + 1 ≤ R.cells) (hslots : slots + N ≤ R.slots) (hdg : decode cc pc = .ok (.new index, 3))
    (kk : ∀ H1 : Heap, H1.size = H.size + 1 → e_P X ad (kup kd nm K) sp (e_z v nm) H1 → e_I z0 ad (kup kd nm K) → va_S (e_A z0) H0 H1 locs → W p l e R s m args below meth c H1 locs (cells + 1) (slots + N) Q (F0 m (pc + 3) ls (.ref (ad nm) :: rest))) : W p l e R s m args below meth c H locs cells slots Q (F0 m pc ls rest) := by
  have hKn := hK.1.1 ci _ hc
  refine W.newcK hexec hb hown (hts _ hcl) (hts _ hinst) (hts _ hini) rfl hdg hcells hslots hKn.2.1 rfl fun H1 kC hkC e1 z1 o1 => ?_
  have hb := (u_born ty hts hin hKn hkC e1 hty).to hfs
  rw [← had] at hb ⊢
  obtain ⟨g1, g2⟩ := hP.grow hI hz had o1 (by rw [he]; exact ⟨_, hc, hb⟩) hk
  exact kk H1 z1 g1 g2 ⟨Nat.le_trans hS.1 (by omega), fun x h1 h2 => (o1 x (Nat.lt_of_lt_of_le h1 hS.1)).trans (hS.2.1 x h1 h2), hS.2.2⟩
theorem e_newa (hexec : p.tables.exec = Jvm.exec) (hb : c.code = cc) (hts : ∀ w ∈ AW, w.before args s = true) (harr : Cond.arrayClass .int ∈ AW) (hK : e_S X s) (hP : e_P X ad kd sp v H) (hI : e_I z0 ad kd) (hz : z0 ≤ H.size) (hS : va_S (e_A z0) H0 H locs) (nm N : Nat) (hk : kd nm = 0) (had : ad nm = H.size) {x : Int32} (hx : x = nI N) (hN : N < 100000) (hcells : cells + 1 ≤ R.cells) (hslots : slots + N ≤ R.slots) (hdg : decode cc pc = .ok (.newarray .int, 2))
    (kk : ∀ H1 : Heap, H1.size = H.size + 1 → e_P X ad (kup kd nm (N + 20)) sp (e_z v nm) H1 → e_I z0 ad (kup kd nm (N + 20)) → va_S (e_A z0) H0 H1 locs → W p l e R s m args below meth c H1 locs (cells + 1) (slots + N) Q (F0 m (pc + 2) ls (.ref (ad nm) :: rest))) : W p l e R s m args below meth c H locs cells slots Q (F0 m pc ls (.int x :: rest)) := by
  subst hx
  refine va_newaK (atype := .int) hexec hb (hts _ harr) rfl hdg rfl (nI_pos (by omega)) (nI_clamp (by omega)) (by show N * 4 ≤ _; omega) hcells hslots rfl fun H1 cA e1 z1 o1 hAr hNm => ?_
  have hcA : cA = X.2 0 := Option.some.inj (hNm.symm.trans (hK.1.2 0 _ rfl).2)
  subst hcA
  rw [← had] at e1 ⊢
  obtain ⟨g1, g2⟩ := hP.grow hI hz (K := N + 20) had o1 (by
    show H1[ad nm]? = some (vp_cell (X.2 0) (N, .inl (e_z v nm nm)))
    rw [e1, vp_cell_i]
    have : e_z v nm nm = fun _ => 0 := if_pos rfl
    rw [this]
    rfl) hk
  exact kk H1 z1 g1 g2 ⟨Nat.le_trans hS.1 (by omega), fun x h1 h2 => (o1 x (Nat.lt_of_lt_of_le h1 hS.1)).trans (hS.2.1 x h1 h2), hS.2.2⟩
theorem e_newo (hexec : p.tables.exec = Jvm.exec) (hb : c.code = cc) (hts : ∀ w ∈ AW, w.before args s = true) {own : String} {index : Nat} (hown : s.vm.findClass own = some m.cls) (hcl : Cond.classLink own index e_O ∈ AW) (hao : va_AO e_O s) (hK : e_S X s) (hP : e_P X ad kd sp v H) (hI : e_I z0 ad kd) (hz : z0 ≤ H.size) (hS : va_S (e_A z0) H0 H locs) (nm K N : Nat) (hk : kd nm = 0) (had : ad nm = H.size) {f : Nat → Option Nat} (he : e_sh X ad sp (e_z v nm) K nm = .inl (X.2 1, N, .inr (.inr (.inr (.inr f))))) (hf : f = fun _ => none) {x : Int32} (hx : x = nI N) (hN : N < 100000) (hcells : cells + 1 ≤ R.cells) (hslots : slots + N ≤ R.slots) (hdg : decode cc pc = .ok (.anewarray index, 3))
    (kk : ∀ H1 : Heap, H1.size = H.size + 1 → e_P X ad (kup kd nm K) sp (e_z v nm) H1 → e_I z0 ad (kup kd nm K) → va_S (e_A z0) H0 H1 locs → W p l e R s m args below meth c H1 locs (cells + 1) (slots + N) Q (F0 m (pc + 3) ls (.ref (ad nm) :: rest))) : W p l e R s m args below meth c H locs cells slots Q (F0 m pc ls (.int x :: rest)) := by
  subst hx
  subst hf
  have hcl : (nI N).toNatClampNeg = N := nI_clamp (by omega)
  refine W.anew hexec hb hown (hts _ ‹Cond.classLink own index e_O ∈ AW›) (va_AO.use hao) rfl hdg rfl (nI_pos (by omega)) (by rw [hcl]; omega) hcells (by rw [hcl]; exact hslots) fun cA kA comp f1 f2 f3 f4 => ?_
  rw [hcl]
  obtain ⟨kA', comp', g1, g2, g3, g4⟩ := (hK.1.2 1 _ rfl).2
  have hcA : cA = X.2 1 := Option.some.inj (f1.symm.trans g4)
  subst hcA
  generalize hH1 : H.push ({ cls := X.2 1, slots := Array.replicate N .null, vm := .none } : Cell) = H1
  have z1 : H1.size = H.size + 1 := by rw [← hH1, Array.size_push]
  have e1 : H1[H.size]? = some (arrV (X.2 1) N (fun _ => .null)) := by rw [← hH1, Array.getElem?_push_size, ← arrV_new]
  have o1 : ∀ q : Nat, q < H.size → H1[q]? = H[q]? := fun q hq => by rw [← hH1, Array.getElem?_push, if_neg (Nat.ne_of_lt hq)]
  rw [← had] at e1 ⊢
  obtain ⟨g1, g2⟩ := hP.grow hI hz (K := K) had o1 (by
    rw [he]
    show H1[ad nm]? = some (vp_cell (X.2 1) (N, .inr (.inr (.inr (.inr (fun _ => none))))))
    rw [e1, vp_cell_q]
    rfl) hk
  exact kk H1 z1 g1 g2 ⟨Nat.le_trans hS.1 (by omega), fun x h1 h2 => (o1 x (Nat.lt_of_lt_of_le h1 hS.1)).trans (hS.2.1 x h1 h2), hS.2.2⟩
/-- a field is written, of any sort; what the cell holds then is v', sp' -/
theorem e_putr (hexec : p.tables.exec = Jvm.exec) (hb : c.code = cc) (hts : ∀ w ∈ AW, w.before args s = true) {own ref C : String} {T : u_T} {N ci index : Nat} (hin : ∀ w ∈ u_ws C T N, w ∈ AW) (ty0 : Nat → FieldType) (hty : ∀ k, k < N → parseFieldDescriptor (T k).2.2.1 = some (ty0 k)) (hnm : ∀ a, a < N → ∀ b, b < N → a ≠ b → (T a).2.1 ≠ (T b).2.1) (hown : s.vm.findClass own = some m.cls) (hK : e_S X s) (hP : e_P X ad kd sp v H) (hI : e_I z0 ad kd) (hS0 : va_S (e_A z0) H0 H locs) (n K : Nat) (hk : kd n = K) (h0 : K ≠ 0) {fs : List Value} (he : e_sh X ad sp v K n = .inr (ci, fs)) (hc : vwCl[ci]? = some (C, T, N)) (k : Nat) (hkN : k < N) (hlink : Cond.fieldLink own index ref (T k).2.1 (T k).2.2.1 ∈ AW) (hsame : ∀ x, s.fieldFound? (T k).1 (T k).2.1 (T k).2.2.1 = some x → s.fieldFound? ref (T k).2.1 (T k).2.2.1 = some x) (hfin : (T k).2.2.2 = false ∨ ((T k).2.2.2 = true ∧ meth.name = "<init>" ∧ (T k).1 = own)) {ty : FieldType} {w : Value} (hd : parseFieldDescriptor (T k).2.2.1 = some ty) (hnr : narrow ty w = w) (hfit : fits ty w = true) (hl : k < fs.length) (sp' : Nat → Nat) (v' : eV) (he' : e_sh X ad sp' v' K n = .inr (ci, fs.set k w)) (ho : ∀ m, kd m ≠ 0 → m ≠ n → e_sh X ad sp' v' (kd m) m = e_sh X ad sp v (kd m) m) (hdg : decode cc pc = .ok (.putfield index, 3))
    (kk : ∀ (H1 : Heap) (locs1 : List Loc), H1.size = H.size → e_P X ad kd sp' v' H1 → va_S (e_A z0) H0 H1 locs1 → W p l e R s m args below meth c H1 locs1 cells slots Q (F0 m (pc + 3) ls rest)) : W p l e R s m args below meth c H locs cells slots Q (F0 m pc ls (w :: .ref (ad n) :: rest)) := by
  have hn0 : kd n ≠ 0 := by rw [hk]; exact h0
  have hap := va_apart (D := X.1) (cl := vwCl) (tys := e_tys X) (own := own) hts hin ty0 hty hnm hK.1 hc
  have hat := hP n hn0
  rw [hk, he] at hat
  obtain ⟨r, h1, cell, q1, q2, q3, q4⟩ := hat
  have hr : r = (C, T, N) := Option.some.inj (h1.symm.trans hc)
  subst hr
  obtain ⟨hSl, hfc, kC, hkC, hkind⟩ := hK.1.1 ci _ hc
  obtain ⟨cf, kf, fi, f, hi, hsl⟩ := hSl k hkN
  have hlay := hts _ (hin _ (u_in_lay hkN))
  unfold u_lay at hlay
  have hst := (u_facts hfc hkC (u_lays hts hin hkN) hi).1
  have fin : ∀ (H' : Heap) (e1 : H'[ad n]? = some (cell.setSlot f.slot w)) (e2 : H'.size = H.size) (e3 : ∀ q, q ≠ ad n → H'[q]? = H[q]?), W p l e R s m args below meth c H' (locs ++ [⟨ad n, f.slot⟩]) cells slots Q (F0 m (pc + 3) ls rest) := by
    intro H' e1 e2 e3
    rw [hsl] at e1
    refine kk H' _ e2 (hP.put2 hI hn0 ?_ e3 ho) (hS0.put e2 e3 (hI.2 n hn0))
    rw [hk, he']
    exact ⟨_, hc, t_OB.to (V := updV (vp_V fs) k w) ⟨_, e1, q2, q3, t_set q4 hap hkN w⟩ (fun j _ => vp_updV_set hl w j)⟩
  rcases hfin with hfin | ⟨hfin, hin2, hdecl⟩
  · rw [if_neg (by rw [hfin]; decide)] at hlay
    have h6 := u_store hfc hkC hkind hlay hi hd hnr hfit
    exact W.putK hexec hb (f := f) ⟨hown, hts _ hlink, ⟨_, _, _, hsame _ hi⟩, hst⟩ (by rw [q2]; exact h6) q1 q3 (by rw [hsl]; exact k2_hasslot (q4 k hkN)) rfl rfl hdg fin
  · rw [if_pos hfin] at hlay
    have hcf : m.cls = cf := by
      obtain ⟨_, _, c', _, _, _, -, -, hf', -, -, -, hown2, -⟩ := Cond.laysFinal_spec hlay
      have e1 : c' = cf := by have := hi.symm.trans hf'; simp at this; exact this.1.symm
      rw [hdecl] at hown2
      rw [← e1]; exact Option.some.inj (hown.symm.trans hown2)
    have h6 := u_fits hfc hkC hkind (Or.inr hlay) hi hd hnr hfit
    exact W.putFinK hexec hb hown (hts _ hlink) (hsame _ hi) hst hcf hin2 (by rw [q2]; exact h6) q1 q3 (by rw [hsl]; exact k2_hasslot (q4 k hkN)) rfl rfl hdg fin
/-- a reference is stored into an Object[] -/
theorem e_aast (hexec : p.tables.exec = Jvm.exec) (hb : c.code = cc) (hK : e_S X s) (hP : e_P X ad kd sp v H) (hI : e_I z0 ad kd) (hS : va_S (e_A z0) H0 H locs) (n K N : Nat) (hk : kd n = K) (h0 : K ≠ 0) {f f' : Nat → Option Nat} (he : e_sh X ad sp v K n = .inl (X.2 1, N, .inr (.inr (.inr (.inr f))))) {i : Int32} (j : Nat) (hi : i = nI j) (hj : j < N) (hN : N < 2 ^ 31) (q Kq : Nat) (hq : kd q = Kq) (hq0 : Kq ≠ 0) {cq : Nat} {fs : List Value} (heq : e_sh X ad sp v Kq q = .inr (cq, fs)) {C : String} {T : u_T} {Nq : Nat} (hc : vwCl[cq]? = some (C, T, Nq)) (hca : va_Nw (.castable C e_O) s) (sp' : Nat → Nat) (he' : e_sh X ad sp' v K n = .inl (X.2 1, N, .inr (.inr (.inr (.inr f'))))) (hf' : f' = va_up f j (some (ad q))) (ho : ∀ m, kd m ≠ 0 → m ≠ n → e_sh X ad sp' v (kd m) m = e_sh X ad sp v (kd m) m) (hdg : decode cc pc = .ok (.aastore, 1))
    (kk : ∀ (H1 : Heap) (locs1 : List Loc), H1.size = H.size → e_P X ad kd sp' v H1 → va_S (e_A z0) H0 H1 locs1 → W p l e R s m args below meth c H1 locs1 cells slots Q (F0 m (pc + 1) ls rest)) : W p l e R s m args below meth c H locs cells slots Q (F0 m pc ls (.ref (ad q) :: .int i :: .ref (ad n) :: rest)) := by
  subst hi
  subst hf'
  have hn0 : kd n ≠ 0 := by rw [hk]; exact h0
  have hat : H[ad n]? = some (vp_cell (X.2 1) (N, .inr (.inr (.inr (.inr f))))) := by have h := hP n hn0; rw [hk, he] at h; exact h
  have hqt := hP q (by rw [hq]; exact hq0)
  rw [hq, heq] at hqt
  obtain ⟨r', hr', cellV, g1, g2, g3, -⟩ := hqt
  have hr : r' = (C, T, Nq) := Option.some.inj (hr'.symm.trans hc)
  subst hr
  have hcls := (hK.1.1 cq _ hc).2
  obtain ⟨kA, comp, k1, k2, k3, -⟩ := (hK.1.2 1 _ rfl).2
  obtain ⟨kE, hkE, -⟩ := Vm.findClass_spec k3
  obtain ⟨c0, t1, f1, f2, f3⟩ := Cond.castable_spec (va_Nw.use (A := args) rfl hca)
  cases hcls.1.symm.trans f1
  cases k3.symm.trans f2
  obtain ⟨kC, hkC, -⟩ := hcls.2
  have hcl : (nI j).toNatClampNeg = j := nI_clamp (by omega)
  refine W.aast hexec hb hat (fun q h => by cases h) (fun h => by cases h) k1 k2 rfl hkE ⟨nI_pos (by omega), by show _ < (arrV _ _ _).slots.size; rw [arrV_size, hcl]; exact hj⟩ g1 (fun q h => by rw [g3] at h; cases h) (by rw [g2]; exact hkC) (by rw [g2]; exact f3) rfl rfl hdg fun H1 e z oq => ?_
  refine kk H1 _ z (hP.put2 hI hn0 ?_ oq ho) (hS.put z oq (hI.2 n hn0))
  rw [hk, he']
  show H1[ad n]? = some (vp_cell _ _)
  rw [e, hcl, vp_cell_q, vp_cell_q, arrV_store]
  congr 2
  funext y
  by_cases hy : y = j
  · subst hy
    simp [updV, va_up, va_rf]
  · simp [updV, va_up, hy]
theorem e_oalen (hexec : p.tables.exec = Jvm.exec) (hb : c.code = cc) (hK : e_S X s) (hP : e_P X ad kd sp v H) (n K N : Nat) (hk : kd n = K) (h0 : K ≠ 0) {f : Nat → Option Nat} (he : e_sh X ad sp v K n = .inl (X.2 1, N, .inr (.inr (.inr (.inr f))))) (hdg : decode cc pc = .ok (.arraylength, 1))
    (kk : W p l e R s m args below meth c H locs cells slots Q (F0 m (pc + 1) ls (.int (nI N) :: rest))) : W p l e R s m args below meth c H locs cells slots Q (F0 m pc ls (.ref (ad n) :: rest)) := by
  refine va_alen (D := X.1) (cl := vwCl) (tys := e_tys X) (cA := X.2 1) (x := (N, .inr (.inr (.inr (.inr f))))) hexec hb hK.1 (ws := [(ad n, .inl (X.2 1, N, .inr (.inr (.inr (.inr f)))))]) (by have h := e_one hP hk h0; rw [he] at h; exact h) 0 1 rfl rfl rfl hdg ?_
  exact kk
/-- the call of a constructor, a method or a static method that makes cells -/
theorem e_runA {ov : Option Value} {a : Array Value} {st0 : List Value} {mc ms a1 : Nat} (hr : va_Run p l e R s m args below meth c H locs cells slots mc ms (F0 m pc ls st0) rest (eQa X z0 ad ov kd' sp' v' a1 a) (e_A z0)) (hz : z0 ≤ H.size) (hS : va_S (e_A z0) H0 H locs)
    (kk : ∀ (H1 : Heap) (locs1 : List Loc), z0 ≤ H1.size → H1.size = a1 → e_P X ad kd' sp' v' H1 → e_I z0 ad kd' → va_S (e_A z0) H0 H1 locs1 → W p l e R s m args below meth c H1 locs1 (cells + mc) (slots + ms) Q (F0 m (pc + 3) ls (ov.toList ++ rest))) : W p l e R s m args below meth c H locs cells slots Q (F0 m pc ls st0) := by
  intro T hT X
  obtain ⟨v, st₀, t, T', L, h0, X', hL, e1, -, ⟨hv, hh, hI, ha, hF⟩, st⟩ := hr T hT X
  cases hv
  obtain ⟨hz1, hk⟩ := hF
  rw [h0] at hz1 hk
  obtain ⟨t2, a1, b1⟩ := kk T'.heap (locs ++ L) (by rw [e1]; exact Nat.le_trans hz hz1) (by rw [e1]; exact ha) (by rw [e1]; exact hh) hI ⟨Nat.le_trans hS.1 (by rw [e1]; exact hz1), fun q h1 h2 => by rw [e1, hk q (Nat.lt_of_lt_of_le h1 hS.1) h2]; exact hS.2.1 q h1 h2, fun q hq => (List.mem_append.mp hq).elim (hS.2.2 q) (hL q)⟩ T' rfl X'
  exact ⟨t2, st t2 a1, b1⟩
def e_cwI (own : String) (idx : Nat) (y : MethodName) (b : ByteArray) (n : Nat) (k : Nat) : Prop := Cond.methodLink own idx y ∈ AW ∧ Cond.instanceMethod y ∈ AW ∧ Cond.initialized y.cls ∈ AW ∧ Cond.code y b n none ∈ AW ∧ y.name = "<init>" ∧ y.cls ≠ "java/lang/invoke/MethodHandle" ∧ y.cls ≠ "java/lang/invoke/VarHandle" ∧ (parseMethodDescriptor y.desc).map (fun d => d.parameters.length) = some k
theorem e_cwI.use {own : String} {idx : Nat} {y : MethodName} {b : ByteArray} {n : Nat} {k : Nat} (h : e_cwI own idx y b n k) {s : State} {args : Array Value} {R rm : Room} {mc ms : Nat} (hts : ∀ w ∈ AW, w.before args s = true) (h1 : rm.cells = mc) (h2 : rm.slots = ms) (h3 : rm.frames + 1 ≤ R.frames) (h4 : 8 + (n + 11) + rm.locals ≤ R.locals) : CallB R s args own idx y b n none (.code y b n none :: AW) rm mc ms k ∧ y.name = "<init>" ∧ (Cond.instanceMethod y).before args s = true := by
  obtain ⟨a1, a2, a4, a5, a6, a7, a8, a9⟩ := h
  exact ⟨callB_of k hts (aw_in a5) rfl h1 h2 (hts _ a4) (hts _ a1) ⟨a7, a8, a9⟩ ⟨h3, h4⟩, a6, hts _ a2⟩
theorem e_cIA (hx : p.tables.exec = Jvm.exec) (hb : c.code = cc) (hml : c.maxLocals = nL) {own : String} (hown : s.vm.findClass own = some m.cls) (hts : ∀ w ∈ AW, w.before args s = true) (hL : e_L z0 t0 mi s) {y : MethodName} {b : ByteArray} {n idx k d mc ms a0 a1 : Nat} {As : List Value} (nm : Nat) (hM : eAl l y b n none d mc ms (.ref (ad nm) :: As) X z0 t0 mi ad kd sp v a0 none kd' sp' v' a1) (cw : e_cwI own idx y b n k) (hf : d + 1 ≤ R.frames) (hlo : 8 + (n + 11) + 60 * d ≤ R.locals) (hz : z0 ≤ H.size) (ha : H.size = a0) (hP : e_P X ad kd sp v H) (hI : e_I z0 ad kd) (hK : e_S X s) (hS : va_S (e_A z0) s.heap H locs) (hn : As.length = k) (hsz : ls.size = nL) (hst : st = As.reverse ++ .ref (ad nm) :: rest) (hW : (rest.map fun v => v.category).sum ≤ 8) (hfc : cells + mc ≤ R.cells ∧ slots + ms ≤ R.slots) (hdg : decode cc pc = .ok (.invokespecial idx, 3))
    (kk : ∀ (H1 : Heap) (locs1 : List Loc), z0 ≤ H1.size → H1.size = a1 → e_P X ad kd' sp' v' H1 → e_I z0 ad kd' → va_S (e_A z0) s.heap H1 locs1 → W p l e R s m args below meth c H1 locs1 (cells + mc) (slots + ms) Q (F0 m (pc + 3) ls rest)) : W p l e R s m args below meth c H locs cells slots Q (F0 m pc ls st) :=
  e_runA (va_runI (As := As) (rest := rest) ⟨hx, hb, hml, hown, hts⟩ hM (cw.use hts rfl rfl hf hlo) ⟨fun a U g mk q => ⟨q.1, q.2.call g mk a⟩, fun U hU hW => ⟨rfl, ⟨by rw [hU]; exact hz, by rw [hU]; exact hP, hI, hK.warm hW⟩, by rw [hU]; exact ha, hL.warm hW hU hS⟩⟩ rfl hn hsz hst (lv_room hW) hdg hfc) hz hS kk
theorem e_cVA (hx : p.tables.exec = Jvm.exec) (hb : c.code = cc) (hml : c.maxLocals = nL) {own : String} (hown : s.vm.findClass own = some m.cls) (hts : ∀ w ∈ AW, w.before args s = true) (hL : e_L z0 t0 mi s) {y : MethodName} {b : ByteArray} {n idx k d mc ms a0 a1 : Nat} {r : Option FieldType} {C : String} {As : List Value} {ov : Option Value} (nm : Nat) (hM : eAl l y b n r d mc ms (.ref (ad nm) :: As) X z0 t0 mi ad kd sp v a0 ov kd' sp' v' a1) (cw : e_cwV own idx C y b n r k) (hf : d + 1 ≤ R.frames) (hlo : 8 + (n + 11) + 60 * d ≤ R.locals) (hz : z0 ≤ H.size) (ha : H.size = a0) (hP : e_P X ad kd sp v H) (hI : e_I z0 ad kd) (hK : e_S X s) (hS : va_S (e_A z0) s.heap H locs) {K : Nat} (hk : kd nm = K) (h0 : K ≠ 0) {ci : Nat} {fs : List Value} (he : e_sh X ad sp v K nm = .inr (ci, fs)) {T : u_T} {N : Nat} (hc : vwCl[ci]? = some (C, T, N)) (hn : As.length = k) (hsz : ls.size = nL) (hst : st = As.reverse ++ .ref (ad nm) :: rest) (hW : (rest.map fun v => v.category).sum ≤ 8) (hfc : cells + mc ≤ R.cells ∧ slots + ms ≤ R.slots) (hdg : decode cc pc = .ok (.invokevirtual idx, 3))
    (kk : ∀ (H1 : Heap) (locs1 : List Loc), z0 ≤ H1.size → H1.size = a1 → e_P X ad kd' sp' v' H1 → e_I z0 ad kd' → va_S (e_A z0) s.heap H1 locs1 → W p l e R s m args below meth c H1 locs1 (cells + mc) (slots + ms) Q (F0 m (pc + 3) ls (ov.toList ++ rest))) : W p l e R s m args below meth c H locs cells slots Q (F0 m pc ls st) :=
  e_runA (va_runV (As := As) (rest := rest) ⟨hx, hb, hml, hown, hts⟩ hM (cw.use hts rfl rfl hf hlo) ⟨fun a U g mk q => ⟨q.1, q.2.call g mk a⟩, e_recv hK hP hk h0 he hc, fun U hU hW => ⟨rfl, ⟨by rw [hU]; exact hz, by rw [hU]; exact hP, hI, hK.warm hW⟩, by rw [hU]; exact ha, hL.warm hW hU hS⟩⟩ rfl hn hsz hst (lv_room hW) hdg hfc) hz hS kk
theorem e_cSA (hx : p.tables.exec = Jvm.exec) (hb : c.code = cc) (hml : c.maxLocals = nL) {own : String} (hown : s.vm.findClass own = some m.cls) (hts : ∀ w ∈ AW, w.before args s = true) (hL : e_L z0 t0 mi s) {y : MethodName} {b : ByteArray} {n idx k d mc ms a0 a1 : Nat} {r : Option FieldType} {As : List Value} {ov : Option Value} (hM : eAl l y b n r d mc ms As X z0 t0 mi ad kd sp v a0 ov kd' sp' v' a1) (cw : e_cwS own idx y b n r k) (hf : d + 1 ≤ R.frames) (hlo : 8 + (n + 11) + 60 * d ≤ R.locals) (hz : z0 ≤ H.size) (ha : H.size = a0) (hP : e_P X ad kd sp v H) (hI : e_I z0 ad kd) (hK : e_S X s) (hS : va_S (e_A z0) s.heap H locs) (hn : As.length = k) (hsz : ls.size = nL) (hst : st = As.reverse ++ rest) (hW : (rest.map fun v => v.category).sum ≤ 8) (hfc : cells + mc ≤ R.cells ∧ slots + ms ≤ R.slots) (hdg : decode cc pc = .ok (.invokestatic idx, 3))
    (kk : ∀ (H1 : Heap) (locs1 : List Loc), z0 ≤ H1.size → H1.size = a1 → e_P X ad kd' sp' v' H1 → e_I z0 ad kd' → va_S (e_A z0) s.heap H1 locs1 → W p l e R s m args below meth c H1 locs1 (cells + mc) (slots + ms) Q (F0 m (pc + 3) ls (ov.toList ++ rest))) : W p l e R s m args below meth c H locs cells slots Q (F0 m pc ls st) :=
  e_runA (va_runS (As := As) (rest := rest) ⟨hx, hb, hml, hown, hts⟩ hM (cw.use hts rfl rfl hf hlo) ⟨fun a U g mk q => ⟨q.1, q.2.call g mk a⟩, fun U hU hW => ⟨rfl, ⟨by rw [hU]; exact hz, by rw [hU]; exact hP, hI, hK.warm hW⟩, by rw [hU]; exact ha, hL.warm hW hU hS⟩⟩ rfl hn hsz hst (lv_room hW) hdg hfc) hz hS kk
theorem e_runMz {ov : Option Value} {a : Array Value} {st0 : List Value} (hr : va_Run p l e R s m args below meth c H locs cells slots 0 0 (F0 m pc ls st0) rest (eM X z0 ad kd sp ov v' a) (e_A z0)) (hz : z0 ≤ H.size) (hsz : H.size = s.heap.size + cells) (hS : va_S (e_A z0) H0 H locs)
    (kk : ∀ (H1 : Heap) (locs1 : List Loc), H1.size = H.size → e_P X ad kd sp v' H1 → va_S (e_A z0) H0 H1 locs1 → W p l e R s m args below meth c H1 locs1 cells slots Q (F0 m (pc + 3) ls (ov.toList ++ rest))) : W p l e R s m args below meth c H locs cells slots Q (F0 m pc ls st0) := by
  intro T hT X
  obtain ⟨v, st₀, t, T', L, h0, X', hL, e1, -, ⟨hv, hh, hF⟩, st⟩ := hr T hT X
  cases hv
  obtain ⟨hz1, hk⟩ := hF
  have hle := X'.heapSize
  rw [h0] at hz1 hk
  obtain ⟨t2, a1, b1⟩ := kk T'.heap (locs ++ L) (by rw [e1] at hle ⊢; omega) (by rw [e1]; exact hh) ⟨Nat.le_trans hS.1 (by rw [e1]; exact hz1), fun q h1 h2 => by rw [e1, hk q (Nat.lt_of_lt_of_le h1 hS.1) h2]; exact hS.2.1 q h1 h2, fun q hq => (List.mem_append.mp hq).elim (hS.2.2 q) (hL q)⟩ T' rfl X'
  exact ⟨t2, st t2 a1, b1⟩
theorem e_cSMz (hx : p.tables.exec = Jvm.exec) (hb : c.code = cc) (hml : c.maxLocals = nL) {own : String} (hown : s.vm.findClass own = some m.cls) (hts : ∀ w ∈ AW, w.before args s = true) {y : MethodName} {b : ByteArray} {n idx k d : Nat} {r : Option FieldType} {As : List Value} {ov : Option Value} (hM : eMu l y b n r d As X z0 ad kd sp v ov v') (cw : e_cwS own idx y b n r k) (hf : d + 1 ≤ R.frames) (hlo : 8 + (n + 11) + 60 * d ≤ R.locals) (hz : z0 ≤ H.size) (hsz : H.size = s.heap.size + cells) (hP : e_P X ad kd sp v H) (hI : e_I z0 ad kd) (hK : e_S X s) (hS : va_S (e_A z0) H0 H locs) (hn : As.length = k) (hls : ls.size = nL) (hst : st = As.reverse ++ rest) (hW : (rest.map fun v => v.category).sum ≤ 8) (hfc : cells + 0 ≤ R.cells ∧ slots + 0 ≤ R.slots) (hdg : decode cc pc = .ok (.invokestatic idx, 3))
    (kk : ∀ (H1 : Heap) (locs1 : List Loc), H1.size = H.size → e_P X ad kd sp v' H1 → va_S (e_A z0) H0 H1 locs1 → W p l e R s m args below meth c H1 locs1 cells slots Q (F0 m (pc + 3) ls (ov.toList ++ rest))) : W p l e R s m args below meth c H locs cells slots Q (F0 m pc ls st) :=
  e_runMz (va_runS (As := As) (rest := rest) ⟨hx, hb, hml, hown, hts⟩ hM (cw.use hts rfl rfl hf hlo) ⟨fun a U g mk q => ⟨q.1, q.2.call g mk a⟩, fun U hU hW => ⟨rfl, by rw [hU]; exact hz, by rw [hU]; exact hP, hI, hK.warm hW⟩⟩ rfl hn hls hst (lv_room hW) hdg hfc) hz hsz hS kk
end EA
end
section
/-! what a list's numbers are to the cells: who depends on which size -/
theorem e_u0 {X : eD} {ad sp : Nat → Nat} {v : eV} {m K x : Nat} (h : K ≠ 6) : e_sh X ad (upN sp 0 x) v K m = e_sh X ad sp v K m := by
  unfold e_sh
  split <;> first | rfl | exact absurd rfl h
theorem e_u5 {X : eD} {ad sp : Nat → Nat} {v : eV} {m K x : Nat} (h : K ≠ 6) : e_sh X ad (upN sp 5 x) v K m = e_sh X ad sp v K m := by
  unfold e_sh
  split <;> first | rfl | exact absurd rfl h
theorem e_u1 {X : eD} {ad sp : Nat → Nat} {v : eV} {m K x : Nat} (h : K ≠ 8) : e_sh X ad (upN sp 1 x) v K m = e_sh X ad sp v K m := by
  unfold e_sh
  split <;> first | rfl | exact absurd rfl h
theorem e_u6 {X : eD} {ad sp : Nat → Nat} {v : eV} {m K x : Nat} (h : K ≠ 8) : e_sh X ad (upN sp 6 x) v K m = e_sh X ad sp v K m := by
  unfold e_sh
  split <;> first | rfl | exact absurd rfl h
theorem e_u7 {X : eD} {ad sp : Nat → Nat} {v : eV} {m K x : Nat} (h : K ≠ 7) : e_sh X ad (upN sp 7 x) v K m = e_sh X ad sp v K m := by
  unfold e_sh
  split <;> first | rfl | exact absurd rfl h
theorem e_u8 {X : eD} {ad sp : Nat → Nat} {v : eV} {m K x : Nat} (h : K ≠ 9) : e_sh X ad (upN sp 8 x) v K m = e_sh X ad sp v K m := by
  unfold e_sh
  split <;> first | rfl | exact absurd rfl h
theorem e_u3 {X : eD} {ad sp : Nat → Nat} {v : eV} {m K x : Nat} (h : K ≠ 9) : e_sh X ad (upN sp 3 x) v K m = e_sh X ad sp v K m := by
  unfold e_sh
  split <;> first | rfl | exact absurd rfl h
theorem e_u9 {X : eD} {ad sp : Nat → Nat} {v : eV} {m K x : Nat} (h : K ≠ 16) : e_sh X ad (upN sp 9 x) v K m = e_sh X ad sp v K m := by
  unfold e_sh
  split <;> first | rfl | exact absurd rfl h
theorem kup_u {kd : Nat → Nat} {n K K' b m : Nat} (h : kup kd n K m = K') (hK : K ≠ K') (u : ∀ m, kd m = K' → m = b) : m = b := by
  by_cases e : m = n
  · subst e
    rw [kup_s] at h
    exact absurd h hK
  · have : kup kd n K m = kd m := if_neg e
    rw [this] at h
    exact u m h
theorem kup_u0 {kd : Nat → Nat} {n K m : Nat} (h : kup kd n K m = K) (u : ∀ m, kd m ≠ K) : m = n := by
  by_cases e : m = n
  · exact e
  · have : kup kd n K m = kd m := if_neg e
    rw [this] at h
    exact absurd h (u m)
theorem e_push_up {g : Nat → Nat} {n a b : Nat} (ha : a = n) (hb : b = n + 1) : (fun j => if j < b then some (g j) else none) = va_up (fun j => if j < a then some (g j) else none) n (some (g n)) := by
  subst ha
  subst hb
  funext j
  unfold va_up
  by_cases h : j = a
  · subst h
    simp
  · by_cases h2 : j < a
    · rw [if_pos (by omega), if_neg h]
      exact (if_pos h2).symm
    · rw [if_neg (by omega), if_neg h]
      exact (if_neg h2).symm
theorem e_none {g : Nat → Nat} {n : Nat} (h : n = 0) : (fun j => if j < n then some (g j) else none) = fun _ => none := by
  subst h
  funext j
  exact if_neg (by omega)
section EB
variable {p : Program} {l : Launch} {e : Env} {R : Room} {s : State} {m : MethodId} {args : Array Value} {below : List Frame} {meth : Method} {c : Code} {H : Heap} {locs : List Loc} {cells slots : Nat} {Q : State → Prop}
variable {cc : ByteArray} {pc nL : Nat} {ls : Array Slot} {rest st : List Value} {X : eD} {z0 t0 mi : Nat} {ad kd sp kd' sp' : Nat → Nat} {v v' : eV} {H0 : Heap}
/-- the ten lifts of the full array a are copied into the new one b -/
theorem e_copy (hexec : p.tables.exec = Jvm.exec) (hb : c.code = cc) (hml : c.maxLocals = ls.size) {own : String} {index : Nat} (hown : s.vm.findClass own = some m.cls) (hlink : (Cond.methodLink own index arraycopyName).before args s = true) (hnat : (Cond.native arraycopyName).before args s = true) (hstat : (Cond.static arraycopyName).before args s = true) (hini : (Cond.initialized "java/lang/System").before args s = true)
    (hK : e_S X s) (hP : e_P X ad kd sp v H) (hI : e_I z0 ad kd) (hS : va_S (e_A z0) H0 H locs) (hca : va_Nw (.castable "Stepscript$Lift" e_O) s) (a b : Nat) (ha : kd a = 9) (hkb : kd b = 16) (u16 : ∀ m, kd m = 16 → m = b) (h3 : sp 3 = 10) (h8 : sp 8 = 10) (h4 : sp 4 = 15) (h9 : sp 9 = 0) (hel : ∀ i, i < 10 → kd (80 + i) = 4)
    (hframes : 1 ≤ R.frames) (hlocals : (rest.map fun v => v.category).sum + (nativeFrameWords "java/lang/System" "arraycopy" 5 + 11) ≤ R.locals) (hdg : decode cc pc = .ok (.invokestatic index, 3))
    (kk : ∀ (H1 : Heap) (locs1 : List Loc), H1.size = H.size → e_P X ad kd (upN sp 9 10) v H1 → va_S (e_A z0) H0 H1 locs1 → W p l e R s m args below meth c H1 locs1 cells slots Q (F0 m (pc + 3) ls rest)) : W p l e R s m args below meth c H locs cells slots Q (F0 m pc ls (.int 10 :: .int 0 :: .ref (ad b) :: .int 0 :: .ref (ad a) :: rest)) := by
  have hc0 : H[ad a]? = some (vp_cell (X.2 1) (10, .inr (.inr (.inr (.inr (fun j => if j < 10 then some (ad (80 + j)) else none)))))) := by
    have h := hP a (by rw [ha]; decide)
    rw [ha] at h
    have h' : H[ad a]? = some (vp_cell (X.2 1) (sp 3, .inr (.inr (.inr (.inr (fun j => if j < sp 8 then some (ad (80 + j)) else none)))))) := h
    rw [h3, h8] at h'
    exact h'
  have hc1 : H[ad b]? = some (vp_cell (X.2 1) (15, .inr (.inr (.inr (.inr (fun _ => none)))))) := by
    have h := hP b (by rw [hkb]; decide)
    rw [hkb] at h
    have h' : H[ad b]? = some (vp_cell (X.2 1) (sp 4, .inr (.inr (.inr (.inr (fun j => if j < sp 9 then some (ad (80 + j)) else none)))))) := h
    rw [h4, e_none h9] at h'
    exact h'
  intro T hT X0
  obtain ⟨-, k0, hk0, cm0, hkk0⟩ := (hK.1.2 1 _ rfl).1 10 (fun j => va_rf (if j < 10 then some (ad (80 + j)) else none))
  obtain ⟨-, k1, hk1, cm1, hkk1⟩ := (hK.1.2 1 _ rfl).1 15 (fun j => va_rf none)
  obtain ⟨vm', X', step⟩ := X0.arraycopy hexec hown hlink hnat hstat hini (src := ad a) (dst := ad b) (cs := vp_cell (X.2 1) (10, .inr (.inr (.inr (.inr (fun j => if j < 10 then some (ad (80 + j)) else none)))))) (cd := vp_cell (X.2 1) (15, .inr (.inr (.inr (.inr (fun _ => none)))))) (srcPos := 0) (destPos := 0) (n := 10) (by rw [hT]; exact hc0) (by rw [hT]; exact hc1)
    (fun _ h => by cases h) (fun _ h => by cases h) (fun h => by cases h) (fun h => by cases h) hk0 hk1 hkk0 hkk1 rfl (by decide) (by decide) (by decide)
    (by show ¬ _ > ((arrV (X.2 1) 10 (fun j => va_rf (if j < 10 then some (ad (80 + j)) else none))).slots.size : Int); rw [arrV_size]; decide)
    (by show ¬ _ > ((arrV (X.2 1) 15 (fun j => va_rf none)).slots.size : Int); rw [arrV_size]; decide)
    (fun vm₁ hal i hi => by
      have hi : i < 10 := hi
      have e : (vp_cell (X.2 1) (10, .inr (.inr (.inr (.inr (fun j => if j < 10 then some (ad (80 + j)) else none)))))).slots.getD ((0 : Int32).toNatClampNeg + i) .null = va_rf (some (ad (80 + i))) := by
        show (arrV (X.2 1) 10 (fun j => va_rf (if j < 10 then some (ad (80 + j)) else none))).slots.getD _ _ = _
        rw [Array.getD_eq_getD_getElem?, arrV_read _ _ (by show 0 + i < 10; omega)]
        show va_rf (if 0 + i < 10 then some (ad (80 + (0 + i))) else none) = _
        rw [if_pos (by omega), Nat.zero_add]
      rw [e]
      obtain ⟨cellV, g1, g2, g3⟩ := e_recv hK hP (hel i hi) (by decide) rfl rfl
      obtain ⟨kA, comp, r1, r2, r3, -⟩ := (hK.1.2 1 _ rfl).2
      cases hk1.symm.trans r1
      cases hkk1.symm.trans r2
      obtain ⟨c0, t1, f1, f2, f3⟩ := Cond.castable_spec (va_Nw.use (A := args) rfl hca)
      have g3' : s.vm.findClass "Stepscript$Lift" = some cellV.cls := g3
      cases g3'.symm.trans f1
      cases r3.symm.trans f2
      obtain ⟨kC, hkC, -⟩ := Vm.findClass_spec g3
      obtain ⟨kE, hkE, -⟩ := Vm.findClass_spec r3
      obtain ⟨kC', hkC', -⟩ := hal.2.2 _ _ hkC
      obtain ⟨kE', hkE', -⟩ := hal.2.2 _ _ hkE
      refine ⟨rfl, cellV, (show T.heap[ad (80 + i)]? = some cellV by rw [hT]; exact g1), (fun q h => by rw [h] at g2; cases g2), ⟨kC', hkC'⟩, ?_, ?_⟩
      · exact ⟨kE', hkE'⟩
      · show vm₁.assignable _ _ = true
        rw [hal.assignable]
        exact f3)
    (g := F0 m pc ls (.int 10 :: .int 0 :: .ref (ad b) :: .int 0 :: .ref (ad a) :: rest)) rfl (by rw [hml]) (rest := rest) rfl (by rw [hb]; exact hdg) hframes (by show 2 * 0 + _ + _ ≤ _; omega)
  have e1 : copied (vp_cell (X.2 1) (10, .inr (.inr (.inr (.inr (fun j => if j < 10 then some (ad (80 + j)) else none)))))) (vp_cell (X.2 1) (15, .inr (.inr (.inr (.inr (fun _ => none)))))) 0 0 10 = vp_cell (X.2 1) (15, .inr (.inr (.inr (.inr (va_cpy (fun j => if j < 10 then some (ad (80 + j)) else none) (fun _ => none) (0 : Int32).toNatClampNeg (0 : Int32).toNatClampNeg (10 : Int32).toNatClampNeg))))) := by
    rw [vp_cell_q, vp_cell_q, vp_cell_q]
    exact va_copied (fun z => va_rf z) (X.2 1) (X.2 1) _ _ (by decide)
  have e2 : va_cpy (fun j => if j < 10 then some (ad (80 + j)) else none) (fun _ => none) (0 : Int32).toNatClampNeg (0 : Int32).toNatClampNeg (10 : Int32).toNatClampNeg = fun j => if j < 10 then some (ad (80 + j)) else none := by
    funext j
    show (if 0 ≤ j ∧ j < 0 + 10 then (if 0 + (j - 0) < 10 then some (ad (80 + (0 + (j - 0)))) else none) else none) = _
    by_cases h : j < 10
    · rw [if_pos (by omega), if_pos (by omega), if_pos h, Nat.zero_add, Nat.sub_zero]
    · rw [if_neg (by omega), if_neg h]
  rw [e1, e2] at X' step
  have hl : ad b < H.size := (Array.getElem?_eq_some_iff.mp hc1).1
  have oq : ∀ q : Nat, q ≠ ad b → (H.setIfInBounds (ad b) (vp_cell (X.2 1) (15, .inr (.inr (.inr (.inr (fun j => if j < 10 then some (ad (80 + j)) else none)))))))[q]? = H[q]? := fun q hq => by simp [Array.getElem?_setIfInBounds, Ne.symm hq]
  have hheap : ((T.setVm vm').setCell (ad b) (vp_cell (X.2 1) (15, .inr (.inr (.inr (.inr (fun j => if j < 10 then some (ad (80 + j)) else none))))))).heap = H.setIfInBounds (ad b) (vp_cell (X.2 1) (15, .inr (.inr (.inr (.inr (fun j => if j < 10 then some (ad (80 + j)) else none)))))) := by rw [← hT]; rfl
  obtain ⟨t, a1, b1⟩ := kk _ _ (by simp) (hP.put2 hI (n := b) (by rw [hkb]; decide) (by
      rw [hkb]
      show (H.setIfInBounds (ad b) _)[ad b]? = some (vp_cell (X.2 1) (sp 4, .inr (.inr (.inr (.inr (fun j => if j < 10 then some (ad (80 + j)) else none))))))
      rw [h4]
      simp [Array.getElem?_setIfInBounds, hl]) oq (fun m hm hne => e_u9 (fun h => hne (u16 m h)))) ⟨by simp; exact hS.1, fun q g1 g2 => by
      rw [oq q (fun e => g2 (by rw [e]; exact hI.2 b (by rw [hkb]; decide)))]
      exact hS.2.1 q g1 g2, fun q hq => by
      rcases List.mem_append.mp hq with h | h
      · exact hS.2.2 q h
      · obtain ⟨z, -, hz⟩ := List.mem_map.mp h
        rw [← hz]
        exact hI.2 b (by rw [hkb]; decide)⟩ _ hheap X'
  exact ⟨t, step t a1, b1⟩
end EB
end
section
section EH
variable {p : Program} {l : Launch} {e : Env} {R : Room} {s : State} {m : MethodId} {args : Array Value} {below : List Frame} {meth : Method} {c : Code} {H : Heap} {locs : List Loc} {cells slots : Nat} {Q : State → Prop}
variable {cc : ByteArray} {pc nL : Nat} {ls : Array Slot} {rest st : List Value} {X : eD} {z0 t0 mi : Nat} {ad kd sp kd' sp' : Nat → Nat} {v v' : eV} {H0 : Heap}
theorem e_cVMz (hx : p.tables.exec = Jvm.exec) (hb : c.code = cc) (hml : c.maxLocals = nL) {own : String} (hown : s.vm.findClass own = some m.cls) (hts : ∀ w ∈ AW, w.before args s = true) {y : MethodName} {b : ByteArray} {n idx k d : Nat} {r : Option FieldType} {C : String} {As : List Value} {ov : Option Value} (nm : Nat) (hM : eMu l y b n r d (.ref (ad nm) :: As) X z0 ad kd sp v ov v') (cw : e_cwV own idx C y b n r k) (hf : d + 1 ≤ R.frames) (hlo : 8 + (n + 11) + 60 * d ≤ R.locals) (hz : z0 ≤ H.size) (hsz : H.size = s.heap.size + cells) (hP : e_P X ad kd sp v H) (hI : e_I z0 ad kd) (hK : e_S X s) (hS : va_S (e_A z0) H0 H locs) {K : Nat} (hk : kd nm = K) (h0 : K ≠ 0) {ci : Nat} {fs : List Value} (he : e_sh X ad sp v K nm = .inr (ci, fs)) {T : u_T} {N : Nat} (hc : vwCl[ci]? = some (C, T, N)) (hn : As.length = k) (hls : ls.size = nL) (hst : st = As.reverse ++ .ref (ad nm) :: rest) (hW : (rest.map fun v => v.category).sum ≤ 8) (hfc : cells + 0 ≤ R.cells ∧ slots + 0 ≤ R.slots) (hdg : decode cc pc = .ok (.invokevirtual idx, 3))
    (kk : ∀ (H1 : Heap) (locs1 : List Loc), H1.size = H.size → e_P X ad kd sp v' H1 → va_S (e_A z0) H0 H1 locs1 → W p l e R s m args below meth c H1 locs1 cells slots Q (F0 m (pc + 3) ls (ov.toList ++ rest))) : W p l e R s m args below meth c H locs cells slots Q (F0 m pc ls st) :=
  e_runMz (va_runV (As := As) (rest := rest) ⟨hx, hb, hml, hown, hts⟩ hM (cw.use hts rfl rfl hf hlo) ⟨fun a U g mk q => ⟨q.1, q.2.call g mk a⟩, e_recv hK hP hk h0 he hc, fun U hU hW => ⟨rfl, by rw [hU]; exact hz, by rw [hU]; exact hP, hI, hK.warm hW⟩⟩ rfl hn hls hst (lv_room hW) hdg hfc) hz hsz hS kk
def e_ad4 (ad : Nat → Nat) (q : Nat) (r : Nat → Nat) : Nat → Nat := fun m => if m = 4 then q else if m = 5 then r 0 else if m = 6 then r 1 else if m = 7 then r 2 else ad m
/-- new int[3][13]: names 4 and 5, 6, 7, over a world that holds 0, 1, 2, 3 alone -/
theorem e_mna (hexec : p.tables.exec = Jvm.exec) (hb : c.code = cc) (hts : ∀ w ∈ AW, w.before args s = true) {own : String} {index : Nat} (hown : s.vm.findClass own = some m.cls) (hcl : Cond.classLink own index "[[I" ∈ AW) (hao : va_AOA .int s) (harr : Cond.arrayClass .int ∈ AW) (hK : e_S X s) (hP : e_P X ad kd sp v H) (hI : e_I z0 ad kd) (hS : va_S (e_A z0) H0 H locs) (hz : z0 ≤ H0.size) (hkd : ∀ n, kd n ≠ 0 → n < 4) (h0 : kd 0 = 18) (h1 : kd 1 = 15) (h2 : kd 2 = 15) (h3 : kd 3 = 84) (hv : v 0 24 = 0) (hcells : cells + (1 + 3) ≤ R.cells) (hslots : slots + (3 + 3 * 13) ≤ R.slots) (hdg : decode cc pc = .ok (.multianewarray index 2, 4))
    (kk : ∀ (a1 : Nat → Nat) (H1 : Heap), (∀ m, m < 4 ∨ 7 < m → a1 m = ad m) → z0 ≤ H1.size → e_P X a1 (kup (kup (kup (kup kd 4 10) 5 33) 6 33) 7 33) sp (e_z (e_z (e_z v 5) 6) 7) H1 → e_I z0 a1 (kup (kup (kup (kup kd 4 10) 5 33) 6 33) 7 33) → va_S (e_A z0) H0 H1 locs → W p l e R s m args below meth c H1 locs (cells + 1 + 3) (slots + 3 + 3 * 13) Q (F0 m (pc + 4) ls (.ref (a1 4) :: rest))) : W p l e R s m args below meth c H locs cells slots Q (F0 m pc ls (.int 13 :: .int 3 :: rest)) := by
  have g0 := hP 0 (by rw [h0]; decide)
  have g1 := hP 1 (by rw [h1]; decide)
  have g2 := hP 2 (by rw [h2]; decide)
  have g3 := hP 3 (by rw [h3]; decide)
  refine va_mna (D := X.1) (cl := vwCl) (tys := e_tys X) (A := e_A z0) (H0 := H0) (X := [(ad 0, e_sh X ad sp v (kd 0) 0), (ad 1, e_sh X ad sp v (kd 1) 1), (ad 2, e_sh X ad sp v (kd 2) 2), (ad 3, e_sh X ad sp v (kd 3) 3)]) (L := []) (f := fun _ => .inr (0, [])) (ty := .int) (cy := X.2 0) (N' := 3) (K' := 13) (z := (13, .inl (fun _ => 0))) hexec hb hown (hts _ hcl) hao (hts _ harr) (hK.1.2 0 _ rfl).2 hK.1 ?_ ?_ hS (fun q hq => Nat.le_trans hz hq) (by decide) (by decide) (by decide) (by decide) (by decide) (by decide) (by decide) rfl rfl hcells hslots (fun c => by rw [vp_cell_i]; exact arrV_new c 13 (.int 0)) hdg ?_
  · intro k q hq
    match k, hq with
    | 0, hq => cases hq; exact g0
    | 1, hq => cases hq; exact g1
    | 2, hq => cases hq; exact g2
    | 3, hq => cases hq; exact g3
    | k + 4, hq => simp [va_pl] at hq
  · have hx : ∀ (k : Nat) (q : Nat × va_E), ([(ad 0, e_sh X ad sp v (kd 0) 0), (ad 1, e_sh X ad sp v (kd 1) 1), (ad 2, e_sh X ad sp v (kd 2) 2), (ad 3, e_sh X ad sp v (kd 3) 3)] ++ va_pl [] (fun _ => (.inr (0, []) : va_E)))[k]? = some q → k < 4 ∧ q.1 = ad k ∧ kd k ≠ 0 := by
      intro k q hq
      match k, hq with
      | 0, hq => cases hq; exact ⟨by decide, rfl, by rw [h0]; decide⟩
      | 1, hq => cases hq; exact ⟨by decide, rfl, by rw [h1]; decide⟩
      | 2, hq => cases hq; exact ⟨by decide, rfl, by rw [h2]; decide⟩
      | 3, hq => cases hq; exact ⟨by decide, rfl, by rw [h3]; decide⟩
      | k + 4, hq => simp [va_pl] at hq
    refine ⟨fun i j p q hp hq e => ?_, fun k q hq => ?_⟩
    · obtain ⟨-, e1, k1⟩ := hx i p hp
      obtain ⟨-, e2, k2⟩ := hx j q hq
      rw [e1, e2] at e
      exact hI.1 i j k1 k2 e
    · obtain ⟨-, e1, k1⟩ := hx k q hq
      rw [e1]
      exact hI.2 k k1
  intro q r cA H1 hr hrL hK' hP' hD' hS'
  have hcA : cA = X.2 2 := by
    have h1 : s.vm.findClass "[[I" = some cA := (hK'.2 4 _ rfl).2
    have h2 : s.vm.findClass "[[I" = some (X.2 2) := (hK.1.2 2 _ rfl).2
    exact Option.some.inj (h1.symm.trans h2)
  subst hcA
  have sg : ∀ k, k ≠ 0 → k < 8 → k < 8 := fun _ _ h => h
  have hlz : z0 ≤ H1.size := Nat.le_trans hz hS'.1
  have at4 := hP' 4 _ rfl
  have at5 := hP' 5 _ rfl
  have at6 := hP' 6 _ rfl
  have at7 := hP' 7 _ rfl
  have i5 : r 0 ∈ (List.range 3).map r := List.mem_map.mpr ⟨0, by decide, rfl⟩
  have i6 : r 1 ∈ (List.range 3).map r := List.mem_map.mpr ⟨1, by decide, rfl⟩
  have i7 : r 2 ∈ (List.range 3).map r := List.mem_map.mpr ⟨2, by decide, rfl⟩
  have at5 : va_at X.1 vwCl (r 0, .inl (X.2 0, (13, .inl (fun _ => 0)))) H1 := by
    have h : va_at X.1 vwCl (r 0, vr_up (fun _ => (.inr (0, []) : va_E)) ((List.range 3).map r) (.inl (X.2 0, (13, .inl (fun _ => 0)))) (r 0)) H1 := at5
    rw [vr_up_in i5] at h
    exact h
  have at6 : va_at X.1 vwCl (r 1, .inl (X.2 0, (13, .inl (fun _ => 0)))) H1 := by
    have h : va_at X.1 vwCl (r 1, vr_up (fun _ => (.inr (0, []) : va_E)) ((List.range 3).map r) (.inl (X.2 0, (13, .inl (fun _ => 0)))) (r 1)) H1 := at6
    rw [vr_up_in i6] at h
    exact h
  have at7 : va_at X.1 vwCl (r 2, .inl (X.2 0, (13, .inl (fun _ => 0)))) H1 := by
    have h : va_at X.1 vwCl (r 2, vr_up (fun _ => (.inr (0, []) : va_E)) ((List.range 3).map r) (.inl (X.2 0, (13, .inl (fun _ => 0)))) (r 2)) H1 := at7
    rw [vr_up_in i7] at h
    exact h
  have hfi : ∀ n, n < 8 → ∃ e, (([(ad 0, e_sh X ad sp v (kd 0) 0), (ad 1, e_sh X ad sp v (kd 1) 1), (ad 2, e_sh X ad sp v (kd 2) 2), (ad 3, e_sh X ad sp v (kd 3) 3)] ++ [(q, (.inl (X.2 2, 3, .inr (.inr (.inr (.inr (fun i => if i < 3 then some (r i) else none))))) : va_E))]) ++ va_pl ([] ++ (List.range 3).map r) (vr_up (fun _ => (.inr (0, []) : va_E)) ((List.range 3).map r) (.inl (X.2 0, (13, .inl (fun _ => 0))))))[n]? = some (e_ad4 ad q r n, e) := by
    intro n hn
    rcases (show n = 0 ∨ n = 1 ∨ n = 2 ∨ n = 3 ∨ n = 4 ∨ n = 5 ∨ n = 6 ∨ n = 7 by omega) with rfl | rfl | rfl | rfl | rfl | rfl | rfl | rfl <;> exact ⟨_, rfl⟩
  have hdom : ∀ n, kup (kup (kup (kup kd 4 10) 5 33) 6 33) 7 33 n ≠ 0 → n < 8 := by
    intro n hn
    by_cases h : n < 8
    · exact h
    · have : kup (kup (kup (kup kd 4 10) 5 33) 6 33) 7 33 n = kd n := by
        unfold kup
        rw [if_neg (by omega), if_neg (by omega), if_neg (by omega), if_neg (by omega)]
      rw [this] at hn
      exact absurd (hkd n hn) (by omega)
  refine kk (e_ad4 ad q r) H1 (fun m hm => ?_) hlz (fun n hn => ?_) ⟨fun a b ha hb' hab => ?_, fun a ha => ?_⟩ hS'
  · unfold e_ad4
    rw [if_neg (by omega), if_neg (by omega), if_neg (by omega), if_neg (by omega)]
  · rcases (show n = 0 ∨ n = 1 ∨ n = 2 ∨ n = 3 ∨ n = 4 ∨ n = 5 ∨ n = 6 ∨ n = 7 by have := hdom n hn; omega) with rfl | rfl | rfl | rfl | rfl | rfl | rfl | rfl
    · have h := hP' 0 _ rfl
      rw [h0] at h
      show va_at X.1 vwCl (ad 0, e_sh X (e_ad4 ad q r) sp (e_z (e_z (e_z v 5) 6) 7) (kd 0) 0) H1
      rw [h0]
      have e : e_sh X (e_ad4 ad q r) sp (e_z (e_z (e_z v 5) 6) 7) 18 0 = e_sh X ad sp v 18 0 := by
        simp [e_sh, e_z, e_ad4, e_rr, hv]
      rw [e]
      exact h
    · have h := hP' 1 _ rfl
      rw [h1] at h
      show va_at X.1 vwCl (ad 1, e_sh X (e_ad4 ad q r) sp (e_z (e_z (e_z v 5) 6) 7) (kd 1) 1) H1
      rw [h1]
      have e : e_sh X (e_ad4 ad q r) sp (e_z (e_z (e_z v 5) 6) 7) 15 1 = e_sh X ad sp v 15 1 := by
        simp [e_sh, e_z, e_ad4]
      rw [e]
      exact h
    · have h := hP' 2 _ rfl
      rw [h2] at h
      show va_at X.1 vwCl (ad 2, e_sh X (e_ad4 ad q r) sp (e_z (e_z (e_z v 5) 6) 7) (kd 2) 2) H1
      rw [h2]
      have e : e_sh X (e_ad4 ad q r) sp (e_z (e_z (e_z v 5) 6) 7) 15 2 = e_sh X ad sp v 15 2 := by
        simp [e_sh, e_z, e_ad4]
      rw [e]
      exact h
    · have h := hP' 3 _ rfl
      rw [h3] at h
      show va_at X.1 vwCl (ad 3, e_sh X (e_ad4 ad q r) sp (e_z (e_z (e_z v 5) 6) 7) (kd 3) 3) H1
      rw [h3]
      have e : e_sh X (e_ad4 ad q r) sp (e_z (e_z (e_z v 5) 6) 7) 84 3 = e_sh X ad sp v 84 3 := by
        simp [e_sh, e_z]
      rw [e]
      exact h
    · show H1[q]? = some (vp_cell (X.2 2) (3, .inr (.inr (.inr (.inr (fun j => if j < 3 then some (e_ad4 ad q r (5 + j)) else none))))))
      have h : H1[q]? = some (vp_cell (X.2 2) (3, .inr (.inr (.inr (.inr (fun i => if i < 3 then some (r i) else none)))))) := at4
      have ef : (fun i => if i < 3 then some (r i) else none) = fun j => if j < 3 then some (e_ad4 ad q r (5 + j)) else none := by
        funext j
        by_cases hj : j < 3
        · rw [if_pos hj, if_pos hj]
          rcases (show j = 0 ∨ j = 1 ∨ j = 2 by omega) with rfl | rfl | rfl <;> rfl
        · rw [if_neg hj, if_neg hj]
      rw [h, ef]
    · exact at5
    · exact at6
    · exact at7
  · obtain ⟨e1, q1⟩ := hfi a (hdom a ha)
    obtain ⟨e2, q2⟩ := hfi b (hdom b hb')
    exact hD'.1 a b _ _ q1 q2 hab
  · obtain ⟨e1, q1⟩ := hfi a (hdom a ha)
    exact hD'.2 a _ q1
end EH
def eQs (X : eD) (z0 : Nat) (ad kd' sp' : Nat → Nat) (v' : eV) : Array Value → State → Outcome → State → Prop := fun _ st o t => o = .returned none ∧ (∃ a1 : Nat → Nat, (∀ m, m < 4 ∨ 7 < m → a1 m = ad m) ∧ e_P X a1 kd' sp' v' t.heap ∧ e_I z0 a1 kd') ∧ va_F (e_A z0) st t
abbrev eSy (l : Launch) (y : MethodName) (b : ByteArray) (n : Nat) (d mc ms : Nat) (av : List Value) (X : eD) (z0 t0 mi : Nat) (ad kd sp : Nat → Nat) (v : eV) (a0 : Nat) (kd' sp' : Nat → Nat) (v' : eV) : Prop := Met l y (.code y b n none :: AW) (e_rm d mc ms) (va_Pc av (eWa X z0 t0 mi ad kd sp v a0)) (eQs X z0 ad kd' sp' v') mc ms (e_A z0)
theorem e_alcS {l : Launch} {y : MethodName} {cc : ByteArray} {n d mc ms : Nat} {av : List Value} {X : eD} {z0 t0 mi : Nat} {ad kd sp kd' sp' : Nat → Nat} {v v' : eV} {a0 : Nat} (hy : plainName y.cls = true) (hav : (lg_sl av).length ≤ n)
    (body : ∀ (p : Program) (e : Env) (s : State) (m : MethodId) (args : Array Value) (below : List Frame) (meth : Method) (c : Code), p.tables.exec = Jvm.exec → c.code = cc → c.maxLocals = n → s.vm.findClass y.cls = some m.cls → (∀ w ∈ AW, w.before args s = true) → eWa X z0 t0 mi ad kd sp v a0 s → meth.name = y.name → ∀ Q : State → Prop, (∀ (H : Heap) (locs : List Loc) (pc : Nat) (ls : Array Slot) (a1 k9 s9 : Nat → Nat) (w : eV) (k u : Nat), k9 = kd' → s9 = sp' → w = v' → k ≤ mc → u ≤ ms → (∀ m, m < 4 ∨ 7 < m → a1 m = ad m) → e_P X a1 k9 s9 w H → e_I z0 a1 k9 → va_S (e_A z0) s.heap H locs → decode cc pc = .ok (.return_, 1) → W p l e (e_rm d mc ms) s m args below meth c H locs k u Q (F0 m pc ls [])) → ∀ ls : Array Slot, lv_has ls n (lv_args 0 av) → W p l e (e_rm d mc ms) s m args below meth c s.heap [] 0 0 Q (F0 m 0 ls [])) : eSy l y cc n d mc ms av X z0 t0 mi ad kd sp v a0 kd' sp' v' := by
  refine Met.ofW (cc := cc) (maxL := n) (ret := none) hy rfl ?_
  intro p e s m args below meth c s₁ Bd hml hv
  obtain ⟨rfl, hB⟩ := hv
  have hts := atoms_spec (ws := .code y cc n none :: AW) Bd.pre
  have hlocks := Bd.notSynchronized
  rw [lg_entry_eq]
  exact body p e s m _ below meth c Bd.exec Bd.bytes hml (findClass_of_methodNamed Bd.named) (fun w hw => hts w (List.mem_cons_of_mem _ hw)) hB (name_of_methodNamed Bd.named Bd.method).1 _ (fun H locs pc ls a1 k9 s9 w k u e1 e2 e3 h1 h2 ha hP hI hS hd => by subst e1; subst e2; subst e3; exact W.widen h1 h2 (W.vret Bd.exec Bd.bytes Bd.returns (fun t ht _ => ⟨rfl, ⟨a1, ha, by rw [ht]; exact hP, hI⟩, hS.F ht⟩) hS.2.2 hd hlocks)) _ (lv_entry av hav)
def eNA (X : eD) (z0 : Nat) (ad kd' sp' : Nat → Nat) (ov : Option Value) (v' : eV) (G : Prop) : Array Value → State → Outcome → State → Prop := fun _ st o t => o = .returned ov ∧ G ∧ e_P X ad kd' sp' v' t.heap ∧ e_I z0 ad kd' ∧ va_F (e_A z0) st t
abbrev eTA (l : Launch) (y : MethodName) (b : ByteArray) (n : Nat) (r : Option FieldType) (d mc ms : Nat) (av : List Value) (X : eD) (z0 t0 mi : Nat) (ad kd sp : Nat → Nat) (v : eV) (a0 : Nat) (ov : Option Value) (kd' sp' : Nat → Nat) (v' : eV) (G : Prop) (P : String → Prop) : Prop := vx_Met l y (.code y b n r :: AW) (e_rm d mc ms) (va_Pc av (fun U => eWa X z0 t0 mi ad kd sp v a0 U ∧ e_T z0 U)) (eNA X z0 ad kd' sp' ov v' G) (eX X z0 ad kd sp v P) mc ms (e_A z0)
theorem e_thrA {l : Launch} {y : MethodName} {cc : ByteArray} {n d mc ms : Nat} {av : List Value} {X : eD} {z0 t0 mi : Nat} {ad kd sp kd' sp' : Nat → Nat} {v v' : eV} {a0 : Nat} {val : Int32} {G : Prop} {P : String → Prop} (hy : plainName y.cls = true) (hav : (lg_sl av).length ≤ n)
    (body : ∀ (p : Program) (e : Env) (s : State) (m : MethodId) (args : Array Value) (below : List Frame) (meth : Method) (c : Code), p.tables.exec = Jvm.exec → c.code = cc → c.maxLocals = n → s.vm.findClass y.cls = some m.cls → (∀ w ∈ AW, w.before args s = true) → eWa X z0 t0 mi ad kd sp v a0 s → e_T z0 s → (∀ x ∈ c.exceptionTable.toList, False) → meth.locks = false → ∀ Q : State → Prop, Q = vx_MQ below (eNA X z0 ad kd' sp' (some (.int val)) v' G) (eX X z0 ad kd sp v P) args s mc ms (e_A z0) → (∀ (H : Heap) (locs : List Loc) (pc : Nat) (ls : Array Slot) (k9 s9 : Nat → Nat) (w : eV) (r : Int32) (k u : Nat), k9 = kd' → s9 = sp' → r = val → w = v' → G → k ≤ mc → u ≤ ms → e_P X ad k9 s9 w H → e_I z0 ad k9 → va_S (e_A z0) s.heap H locs → decode cc pc = .ok (.ireturn, 1) → W p l e (e_rm d mc ms) s m args below meth c H locs k u Q (F0 m pc ls [.int r])) → ∀ ls : Array Slot, lv_has ls n (lv_args 0 av) → W p l e (e_rm d mc ms) s m args below meth c s.heap [] 0 0 Q (F0 m 0 ls [])) : eTA l y cc n (some .int) d mc ms av X z0 t0 mi ad kd sp v a0 (some (.int val)) kd' sp' v' G P := by
  refine vx_ofW (cc := cc) (maxL := n) (ret := some .int) hy rfl ?_
  intro p e s m args below meth c s₁ Bd hml hex hv
  obtain ⟨rfl, hB, hT⟩ := hv
  have hts := atoms_spec (ws := .code y cc n (some .int) :: AW) Bd.pre
  have hlocks := Bd.notSynchronized
  rw [lg_entry_eq]
  exact body p e s m _ below meth c Bd.exec Bd.bytes hml (findClass_of_methodNamed Bd.named) (fun w hw => hts w (List.mem_cons_of_mem _ hw)) hB hT hex hlocks _ rfl (fun H locs pc ls k9 s9 w r k u e1 e2 hr hw hG h1 h2 hP hI hS hd => by subst e1; subst e2; subst hr; subst hw; exact W.widen h1 h2 (vx_ret (W.iret Bd.exec Bd.bytes Bd.returns (fun t ht _ => ⟨rfl, hG, by rw [ht]; exact hP, hI, hS.F ht⟩) hS.2.2 hd hlocks))) _ (lv_entry av hav)
end
